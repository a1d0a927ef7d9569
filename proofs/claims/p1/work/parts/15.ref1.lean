/-! the reference: small words -/
theorem zw_m1 (i : Int32) : zw 0 (-1) i = false := zw_none i
theorem zb_0 {r : Int32} {i : Int32} (h : r = zb (zw 0 (-1) i)) : r = 0 := by rw [h, zw_m1]; rfl
theorem z_and0 (b : Int32) : decide (b &&& (0 ^^^ (-1)) = 0) = zw 0 0 b := by
  have h1 : b &&& (0 ^^^ (-1)) = b := by
    have h2 : (0 : Int32) ^^^ (-1) = -1 := by decide
    rw [h2, Int32.and_neg_one]
  rw [h1]
  unfold zw
  refine decide_eq_decide.mpr ⟨fun h => by rw [h]; decide, fun h => ?_⟩
  have h3 := Int32.le_iff_toInt_le.mp h.1
  have h4 := Int32.le_iff_toInt_le.mp h.2
  exact Int32.toInt_inj.mp (by omega)
theorem z_sign {c d : Int32} (hc : zw 0 63 c = true) (hd : decide (d &&& (c ^^^ (-1)) = 0) = true) : ¬ d < 0 := by
  intro h
  have h0 : (0 : Int32).toInt = 0 := by decide
  have h1 := Int32.le_iff_toInt_le.mp (of_decide_eq_true hc).1
  have h2 := Int32.lt_iff_toInt_lt.mp h
  have h3 : (d &&& (c ^^^ (-1))).toBitVec.msb = (0 : Int32).toBitVec.msb := by rw [of_decide_eq_true hd]
  have hcm : c.toBitVec.msb = false := by
    rw [BitVec.msb_eq_toInt]
    exact decide_eq_false (fun q => by have : c.toInt < 0 := q; omega)
  have hdm : d.toBitVec.msb = true := by
    rw [BitVec.msb_eq_toInt]
    exact decide_eq_true (by have : d.toInt < 0 := by omega
                             exact this)
  have h4 : (d &&& (c ^^^ (-1))).toBitVec.msb = true := by
    rw [Int32.toBitVec_and, Int32.toBitVec_xor, BitVec.msb_and, BitVec.msb_xor, hcm, hdm]
    decide
  have h5 : (0 : Int32).toBitVec.msb = false := by decide
  rw [h4, h5] at h3
  exact absurd h3 (by decide)
theorem zw_9out {i : Int32} (h : ¬ zw 0 9 i = true) : i.toInt < 0 ∨ 9 < i.toInt := by
  rcases (show i.toInt < 0 ∨ 0 ≤ i.toInt by omega) with q | q
  · exact Or.inl q
  · rcases (show 9 < i.toInt ∨ i.toInt ≤ 9 by omega) with q2 | q2
    · exact Or.inr q2
    · exact absurd (decide_eq_true ⟨Int32.le_iff_toInt_le.mpr q, Int32.le_iff_toInt_le.mpr q2⟩) h
set_option maxHeartbeats 4000000 in
set_option maxRecDepth 100000 in
theorem m_X14_is (l : Launch) (G : sx_G) (sz : Nat) (n : Int32) (lo : Int32) (hi : Int32) : sx_Met l yX14_is cX14_is 3 (some .boolean) 0 0 0 0 G [.int n, .int lo, .int hi] [] sz (sx_Qi G (fun (r : Int32) (u : Unit) => r = zb (zw lo hi n)) (fun (u : Unit) => [])) := by
  refine sx_start (by decide) rfl (fun p e s m below meth c A ls F hr hlk hnm hP hD hS hl => ?_)
  obtain ⟨hx, hb, hml, hown, hts, hK, hE, hA⟩ := id F
  have hown : s.vm.findClass RX14 = some m.cls := hown
  generalize hHe : s.heap = H at hP
  have hS : va_S A s.heap H [] := by rw [← hHe]; exact va_S.rf
  have hl : lv_has ls 3 [(0, .int n), (1, .int lo), (2, .int hi)] := hl
  refine lv_iload_n hx hb dX14_is_0 rfl (lv_at hl 0 rfl) ?_
  refine lv_iload_n hx hb dX14_is_1 rfl (lv_at hl 1 rfl) ?_
  refine lv_icmp_lt (tgt := 14) hx hb dX14_is_2 (by decide) (fun c_1 => ?_) (fun c_1 => ?_)
  · refine lv_iconst (v := 0) hx hb dX14_is_14 (by decide) ?_
    exact (sx_iret (v := 0) () hx hb hr (by decide) hlk hP hD hS (zw_f1 c_1) dX14_is_15 rfl rfl)
  · refine lv_iload_n hx hb dX14_is_5 rfl (lv_at hl 0 rfl) ?_
    refine lv_iload_n hx hb dX14_is_6 rfl (lv_at hl 2 rfl) ?_
    refine lv_icmp_gt (tgt := 14) hx hb dX14_is_7 (by decide) (fun c_2 => ?_) (fun c_2 => ?_)
    · refine lv_iconst (v := 0) hx hb dX14_is_14 (by decide) ?_
      exact (sx_iret (v := 0) () hx hb hr (by decide) hlk hP hD hS (zw_f2 c_2) dX14_is_15 rfl rfl)
    · refine lv_iconst (v := 1) hx hb dX14_is_10 (by decide) ?_
      refine lv_goto (tgt := 15) hx hb dX14_is_11 (by decide) ?_
      exact (sx_iret (v := 1) () hx hb hr (by decide) hlk hP hD hS (zw_t c_1 c_2) dX14_is_15 rfl rfl)
set_option maxHeartbeats 4000000 in
set_option maxRecDepth 100000 in
theorem m_X14_refuse (l : Launch) (G : sx_G) (sz : Nat) (md : Nat) (ha : Nat) (th : Int32) (n : Int32) (sm : Int64) : sx_Met l yX14_refuse cX14_refuse 2 (some .int) 0 0 0 0 G [.ref md, .int n] [(md, .inr (16, [.int th, .ref ha, .long sm]))] sz (sx_Qi G (fun (r : Int32) (u : Unit) => r = 0) (fun (u : Unit) => [(md, .inr (16, [.int n, .ref ha, .long sm]))])) := by
  refine sx_start (by decide) rfl (fun p e s m below meth c A ls F hr hlk hnm hP hD hS hl => ?_)
  obtain ⟨hx, hb, hml, hown, hts, hK, hE, hA⟩ := id F
  have hown : s.vm.findClass RX14 = some m.cls := hown
  generalize hHe : s.heap = H at hP
  have hS : va_S A s.heap H [] := by rw [← hHe]; exact va_S.rf
  have hl : lv_has ls 2 [(0, .ref md), (1, .int n)] := hl
  refine lv_aload_n hx hb dX14_refuse_0 rfl (lv_at hl 0 rfl) ?_
  refine lv_iload_n hx hb dX14_refuse_1 rfl (lv_at hl 1 rfl) ?_
  refine va_put (D := sx_D G) (ci := 16) (v := .int n) (ty := tyX14 0) (C := RX14) (T := TX14) (N := 3) hx hb hts inX14 tyX14 tyX14_ok nmX14 hown hK hP hD hS 0 rfl rfl 0 (by decide) (hts _ q908) (fun _ h9 => h9) rfl (by decide +kernel) rfl rfl (Nat.le_of_ble_eq_true rfl) dX14_refuse_2 (fun H locs hP hD hS => ?_)
  have hP : va_P (sx_D G) vwCl [(md, .inr (16, [.int n, .ref ha, .long sm]))] H := hP
  have hD : va_D A [(md, .inr (16, [.int n, .ref ha, .long sm]))] := hD
  refine lv_iconst (v := 0) hx hb dX14_refuse_5 (by decide) ?_
  exact (sx_iret (v := 0) () hx hb hr rfl hlk hP hD hS rfl dX14_refuse_6 rfl rfl)
set_option maxHeartbeats 4000000 in
set_option maxRecDepth 100000 in
theorem m_X14_thrown (l : Launch) (G : sx_G) (sz : Nat) (md : Nat) (ha : Nat) (th : Int32) (sm : Int64) : sx_Met l yX14_thrown cX14_thrown 1 (some .int) 0 0 0 0 G [.ref md] [(md, .inr (16, [.int th, .ref ha, .long sm]))] sz (sx_Qi G (fun (r : Int32) (u : Unit) => r = th) (fun (u : Unit) => [(md, .inr (16, [.int th, .ref ha, .long sm]))])) := by
  refine sx_start (by decide) rfl (fun p e s m below meth c A ls F hr hlk hnm hP hD hS hl => ?_)
  obtain ⟨hx, hb, hml, hown, hts, hK, hE, hA⟩ := id F
  have hown : s.vm.findClass RX14 = some m.cls := hown
  generalize hHe : s.heap = H at hP
  have hS : va_S A s.heap H [] := by rw [← hHe]; exact va_S.rf
  have hl : lv_has ls 1 [(0, .ref md)] := hl
  refine lv_aload_n hx hb dX14_thrown_0 rfl (lv_at hl 0 rfl) ?_
  refine va_get (D := sx_D G) (ci := 16) (v := .int th) (C := RX14) (T := TX14) (N := 3) hx hb hts inX14 hown hK hP 0 rfl rfl 0 (by decide) (hts _ q908) (fun _ h9 => h9) rfl dX14_thrown_1 ?_
  exact (sx_iret (v := th) () hx hb hr rfl hlk hP hD hS rfl dX14_thrown_4 rfl rfl)
set_option maxHeartbeats 4000000 in
set_option maxRecDepth 100000 in
theorem m_Jx4a65c_size_8abf5 (l : Launch) (G : sx_G) (sz : Nat) (la : Nat) (el : Nat) (mc : Int32) (n : Int32) : sx_Met l yJx4a65c_size_8abf5 cJx4a65c_size_8abf5 1 (some .int) 0 0 0 0 G [.ref la] [(la, .inr (1, [.int mc, .ref el, .int n]))] sz (sx_Qi G (fun (r : Int32) (u : Unit) => r = n) (fun (u : Unit) => [(la, .inr (1, [.int mc, .ref el, .int n]))])) := by
  refine sx_start (by decide) rfl (fun p e s m below meth c A ls F hr hlk hnm hP hD hS hl => ?_)
  obtain ⟨hx, hb, hml, hown, hts, hK, hE, hA⟩ := id F
  have hown : s.vm.findClass RJx4a65c = some m.cls := hown
  generalize hHe : s.heap = H at hP
  have hS : va_S A s.heap H [] := by rw [← hHe]; exact va_S.rf
  have hl : lv_has ls 1 [(0, .ref la)] := hl
  refine lv_aload_n hx hb dJx4a65c_size_8abf5_0 rfl (lv_at hl 0 rfl) ?_
  refine va_get (D := sx_D G) (ci := 1) (v := .int n) (C := RJx4a65c) (T := TJx4a65c) (N := 3) hx hb hts inJx4a65c hown hK hP 0 rfl rfl 2 (by decide) (hts _ q859) (fun _ h9 => h9) rfl dJx4a65c_size_8abf5_1 ?_
  exact (sx_iret (v := n) () hx hb hr rfl hlk hP hD hS rfl dJx4a65c_size_8abf5_4 rfl rfl)
set_option maxHeartbeats 4000000 in
set_option maxRecDepth 100000 in
theorem m_Jxa1e45_init_da8c8 (l : Launch) (G : sx_G) (sz : Nat) (la : Nat) (mc : Int32) (n : Int32) : sx_Met l yJxa1e45_init_da8c8 cJxa1e45_init_da8c8 1 none 1 12 0 0 G [.ref la] [(la, .inr (1, [.int mc, .null, .int n]))] sz (sx_Qv G (fun (u : Unit) => True) (fun (u : Unit) => [(la, .inr (1, [.int mc, .null, .int n]))])) := by
  refine sx_start (by decide) rfl (fun p e s m below meth c A ls F hr hlk hnm hP hD hS hl => ?_)
  obtain ⟨hx, hb, hml, hown, hts, hK, hE, hA⟩ := id F
  have hown : s.vm.findClass RJxa1e45 = some m.cls := hown
  generalize hHe : s.heap = H at hP
  have hS : va_S A s.heap H [] := by rw [← hHe]; exact va_S.rf
  have hl : lv_has ls 1 [(0, .ref la)] := hl
  refine lv_aload_n hx hb dJxa1e45_init_da8c8_0 rfl (lv_at hl 0 rfl) ?_
  refine W.objInit hx hb hown (hts _ q853) (hts _ q39) (hts _ q40) rfl (by rw [hml]; exact hl.1) rfl dJxa1e45_init_da8c8_1 (Nat.le_of_ble_eq_true rfl) (Nat.le_of_ble_eq_true rfl) ?_
  refine W.eq (g2 := F0 m 4 ls []) rfl ?_
  exact (sx_vret () hx hb hr hlk hP hD hS trivial dJxa1e45_init_da8c8_4 rfl rfl)
set_option maxHeartbeats 4000000 in
set_option maxRecDepth 100000 in
theorem m_Jxc12de_init_da8c8 (l : Launch) (G : sx_G) (sz : Nat) (la : Nat) (mc : Int32) (n : Int32) : sx_Met l yJxc12de_init_da8c8 cJxc12de_init_da8c8 1 none 2 32 0 0 G [.ref la] [(la, .inr (1, [.int mc, .null, .int n]))] sz (sx_Qv G (fun (u : Unit) => True) (fun (u : Unit) => [(la, .inr (1, [.int 0, .null, .int n]))])) := by
  refine sx_start (by decide) rfl (fun p e s m below meth c A ls F hr hlk hnm hP hD hS hl => ?_)
  obtain ⟨hx, hb, hml, hown, hts, hK, hE, hA⟩ := id F
  have hown : s.vm.findClass RJxc12de = some m.cls := hown
  generalize hHe : s.heap = H at hP
  have hS : va_S A s.heap H [] := by rw [← hHe]; exact va_S.rf
  have hl : lv_has ls 1 [(0, .ref la)] := hl
  refine lv_aload_n hx hb dJxc12de_init_da8c8_0 rfl (lv_at hl 0 rfl) ?_
  have hcut : sx_cut [(la, .inr (1, [.int mc, .null, .int n]))] [(la, .inr (1, [.int mc, .null, .int n]))] [] [0] [] := ⟨rfl, rfl, by decide, by decide, by decide⟩
  refine sx_kv (sx_runI (As := []) (rest := []) F (m_Jxa1e45_init_da8c8 l G H.size la mc n) mi_Jxa1e45_init_da8c8 q851 rfl q850 ⟨⟨Nat.le_of_ble_eq_true rfl, Nat.le_of_ble_eq_true rfl⟩, Nat.le_of_ble_eq_true rfl, Nat.le_of_ble_eq_true rfl⟩ hcut hP hD hS rfl hl.1 rfl (Nat.le_of_ble_eq_true rfl) dJxc12de_init_da8c8_1) hcut hP hD hS hA (fun u_1 H locs w_2 hP hD hS => ?_)
  have hP : va_P (sx_D G) vwCl [(la, .inr (1, [.int mc, .null, .int n]))] H := hP
  have hD : va_D A [(la, .inr (1, [.int mc, .null, .int n]))] := hD
  refine lv_aload_n hx hb dJxc12de_init_da8c8_4 rfl (lv_at hl 0 rfl) ?_
  refine lv_iconst (v := 0) hx hb dJxc12de_init_da8c8_5 (by decide) ?_
  refine va_put (D := sx_D G) (ci := 1) (v := .int 0) (ty := tyJx4a65c 0) (C := RJx4a65c) (T := TJx4a65c) (N := 3) hx hb hts inJx4a65c tyJx4a65c tyJx4a65c_ok nmJx4a65c hown hK hP hD hS 0 rfl rfl 0 (by decide) (hts _ q860) (fun _ h9 => h9) rfl (by decide +kernel) rfl rfl (Nat.le_of_ble_eq_true rfl) dJxc12de_init_da8c8_6 (fun H locs hP hD hS => ?_)
  have hP : va_P (sx_D G) vwCl [(la, .inr (1, [.int 0, .null, .int n]))] H := hP
  have hD : va_D A [(la, .inr (1, [.int 0, .null, .int n]))] := hD
  exact (sx_vret () hx hb hr hlk hP hD hS trivial dJxc12de_init_da8c8_9 rfl rfl)
set_option maxHeartbeats 4000000 in
set_option maxRecDepth 100000 in
theorem m_Jx4a65c_init_da8c8 (l : Launch) (G : sx_G) (sz : Nat) (la : Nat) : sx_Met l yJx4a65c_init_da8c8 cJx4a65c_init_da8c8 1 none 3 52 0 0 G [.ref la] [(la, .inr (1, [.int 0, .null, .int 0]))] sz (sx_Qv G (fun (u : Unit) => True) (fun (u : Unit) => [(la, .inr (1, [.int 0, .ref G.2.2.2.2.2.2.2, .int 0]))])) := by
  refine sx_start (by decide) rfl (fun p e s m below meth c A ls F hr hlk hnm hP hD hS hl => ?_)
  obtain ⟨hx, hb, hml, hown, hts, hK, hE, hA⟩ := id F
  have hown : s.vm.findClass RJx4a65c = some m.cls := hown
  generalize hHe : s.heap = H at hP
  have hS : va_S A s.heap H [] := by rw [← hHe]; exact va_S.rf
  have hl : lv_has ls 1 [(0, .ref la)] := hl
  refine lv_aload_n hx hb dJx4a65c_init_da8c8_0 rfl (lv_at hl 0 rfl) ?_
  have hcut : sx_cut [(la, .inr (1, [.int 0, .null, .int 0]))] [(la, .inr (1, [.int 0, .null, .int 0]))] [] [0] [] := ⟨rfl, rfl, by decide, by decide, by decide⟩
  refine sx_kv (sx_runI (As := []) (rest := []) F (m_Jxc12de_init_da8c8 l G H.size la 0 0) mi_Jxc12de_init_da8c8 q848 rfl q847 ⟨⟨Nat.le_of_ble_eq_true rfl, Nat.le_of_ble_eq_true rfl⟩, Nat.le_of_ble_eq_true rfl, Nat.le_of_ble_eq_true rfl⟩ hcut hP hD hS rfl hl.1 rfl (Nat.le_of_ble_eq_true rfl) dJx4a65c_init_da8c8_1) hcut hP hD hS hA (fun u_1 H locs w_2 hP hD hS => ?_)
  have hP : va_P (sx_D G) vwCl [(la, .inr (1, [.int 0, .null, .int 0]))] H := hP
  have hD : va_D A [(la, .inr (1, [.int 0, .null, .int 0]))] := hD
  refine lv_aload_n hx hb dJx4a65c_init_da8c8_4 rfl (lv_at hl 0 rfl) ?_
  refine va_gets hx hb (hE.2.2.2.2.2.1) hS hown (hts _ q854) (fun _ h9 => h9) dJx4a65c_init_da8c8_5 ?_
  refine va_put (D := sx_D G) (ci := 1) (v := .ref G.2.2.2.2.2.2.2) (ty := tyJx4a65c 1) (C := RJx4a65c) (T := TJx4a65c) (N := 3) hx hb hts inJx4a65c tyJx4a65c tyJx4a65c_ok nmJx4a65c hown hK hP hD hS 0 rfl rfl 1 (by decide) (hts _ q856) (fun _ h9 => h9) rfl (by decide +kernel) rfl rfl (Nat.le_of_ble_eq_true rfl) dJx4a65c_init_da8c8_8 (fun H locs hP hD hS => ?_)
  have hP : va_P (sx_D G) vwCl [(la, .inr (1, [.int 0, .ref G.2.2.2.2.2.2.2, .int 0]))] H := hP
  have hD : va_D A [(la, .inr (1, [.int 0, .ref G.2.2.2.2.2.2.2, .int 0]))] := hD
  exact (sx_vret () hx hb hr hlk hP hD hS trivial dJx4a65c_init_da8c8_11 rfl rfl)
set_option maxHeartbeats 4000000 in
set_option maxRecDepth 100000 in
theorem m_X10_init (l : Launch) (G : sx_G) (sz : Nat) (h : Nat) : sx_Met l yX10_init cX10_init 1 none 4 72 6 26 G [.ref h] [(h, .inr (12, [.null, .null, .null, .null, .null, .null, .int 0, .int 0, .int 0]))] sz (sx_Qv G (fun (u : Nat → Nat) => True) (fun (u : Nat → Nat) => [(h, .inr (12, [.ref (u 0), .ref (u 1), .ref (u 2), .ref (u 3), .ref (u 4), .ref (u 5), .int 0, .int 0, .int 0])), ((u 0), .inr (1, [.int 0, .ref G.2.2.2.2.2.2.2, .int 0])), ((u 1), .inl (G.2.1, 8, .inl (fun _ => 0))), ((u 2), .inl (G.2.1, 6, .inl (fun _ => 0))), ((u 3), .inr (1, [.int 0, .ref G.2.2.2.2.2.2.2, .int 0])), ((u 4), .inr (1, [.int 0, .ref G.2.2.2.2.2.2.2, .int 0])), ((u 5), .inr (1, [.int 0, .ref G.2.2.2.2.2.2.2, .int 0]))])) := by
  refine sx_start (by decide) rfl (fun p e s m below meth c A ls F hr hlk hnm hP hD hS hl => ?_)
  obtain ⟨hx, hb, hml, hown, hts, hK, hE, hA⟩ := id F
  have hown : s.vm.findClass RX10 = some m.cls := hown
  generalize hHe : s.heap = H at hP
  have hS : va_S A s.heap H [] := by rw [← hHe]; exact va_S.rf
  have hl : lv_has ls 1 [(0, .ref h)] := hl
  refine lv_aload_n hx hb dX10_init_0 rfl (lv_at hl 0 rfl) ?_
  refine W.objInit hx hb hown (hts _ q841) (hts _ q39) (hts _ q40) rfl (by rw [hml]; exact hl.1) rfl dX10_init_1 (Nat.le_of_ble_eq_true rfl) (Nat.le_of_ble_eq_true rfl) ?_
  refine W.eq (g2 := F0 m 4 ls []) rfl ?_
  refine lv_aload_n hx hb dX10_init_4 rfl (lv_at hl 0 rfl) ?_
  refine va_new (ci := 1) (fs := [.int 0, .null, .int 0]) (C := RJx4a65c) (T := TJx4a65c) (N := 3) hx hb hts inJx4a65c tyJx4a65c tyJx4a65c_ok hown (hts _ q842) (hts _ q843) (hts _ q13) hK hP hD hS hA rfl (fun j hj => by rcases (show j = 0 ∨ j = 1 ∨ j = 2 by omega) with rfl | rfl | rfl <;> rfl) (Nat.le_of_ble_eq_true rfl) (Nat.le_of_ble_eq_true rfl) dX10_init_5 (fun h_1 H hP hD hS => ?_)
  have hP : va_P (sx_D G) vwCl [(h, .inr (12, [.null, .null, .null, .null, .null, .null, .int 0, .int 0, .int 0])), (h_1, .inr (1, [.int 0, .null, .int 0]))] H := hP
  have hD : va_D A [(h, .inr (12, [.null, .null, .null, .null, .null, .null, .int 0, .int 0, .int 0])), (h_1, .inr (1, [.int 0, .null, .int 0]))] := hD
  refine lv_dup hx hb dX10_init_8 rfl ?_
  have hcut : sx_cut [(h, .inr (12, [.null, .null, .null, .null, .null, .null, .int 0, .int 0, .int 0])), (h_1, .inr (1, [.int 0, .null, .int 0]))] [(h_1, .inr (1, [.int 0, .null, .int 0]))] [(h, .inr (12, [.null, .null, .null, .null, .null, .null, .int 0, .int 0, .int 0]))] [1] [0] := ⟨rfl, rfl, by decide, by decide, by decide⟩
  refine sx_kv (sx_runI (As := []) (rest := [.ref h_1, .ref h]) F (m_Jx4a65c_init_da8c8 l G H.size h_1) mi_Jx4a65c_init_da8c8 q845 rfl q844 ⟨⟨Nat.le_of_ble_eq_true rfl, Nat.le_of_ble_eq_true rfl⟩, Nat.le_of_ble_eq_true rfl, Nat.le_of_ble_eq_true rfl⟩ hcut hP hD hS rfl hl.1 rfl (Nat.le_of_ble_eq_true rfl) dX10_init_9) hcut hP hD hS hA (fun u_2 H locs w_3 hP hD hS => ?_)
  have hP : va_P (sx_D G) vwCl [(h, .inr (12, [.null, .null, .null, .null, .null, .null, .int 0, .int 0, .int 0])), (h_1, .inr (1, [.int 0, .ref G.2.2.2.2.2.2.2, .int 0]))] H := hP
  have hD : va_D A [(h, .inr (12, [.null, .null, .null, .null, .null, .null, .int 0, .int 0, .int 0])), (h_1, .inr (1, [.int 0, .ref G.2.2.2.2.2.2.2, .int 0]))] := hD
  refine va_putF (D := sx_D G) (ci := 12) (v := .ref h_1) (ty := tyX10 0) (C := RX10) (T := TX10) (N := 9) hx hb hts inX10 tyX10 tyX10_ok nmX10 hown hK hP hD hS 0 rfl rfl 0 (by decide) (hts _ q871) (fun _ h9 => h9) rfl hnm rfl (by decide +kernel) rfl rfl (Nat.le_of_ble_eq_true rfl) dX10_init_12 (fun H locs hP hD hS => ?_)
  have hP : va_P (sx_D G) vwCl [(h, .inr (12, [.ref h_1, .null, .null, .null, .null, .null, .int 0, .int 0, .int 0])), (h_1, .inr (1, [.int 0, .ref G.2.2.2.2.2.2.2, .int 0]))] H := hP
  have hD : va_D A [(h, .inr (12, [.ref h_1, .null, .null, .null, .null, .null, .int 0, .int 0, .int 0])), (h_1, .inr (1, [.int 0, .ref G.2.2.2.2.2.2.2, .int 0]))] := hD
  refine lv_aload_n hx hb dX10_init_15 rfl (lv_at hl 0 rfl) ?_
  refine lv_bipush (v := 8) hx hb dX10_init_16 (by decide) ?_
  refine sx_newi hx hb (hts _ q106) hK hP hD hS hA 8 (by decide) (by decide) (Nat.le_of_ble_eq_true rfl) (Nat.le_of_ble_eq_true rfl) (Nat.le_of_ble_eq_true rfl) dX10_init_18 (fun h_5 H hP hD hS => ?_)
  have hP : va_P (sx_D G) vwCl [(h, .inr (12, [.ref h_1, .null, .null, .null, .null, .null, .int 0, .int 0, .int 0])), (h_1, .inr (1, [.int 0, .ref G.2.2.2.2.2.2.2, .int 0])), (h_5, .inl (G.2.1, 8, .inl (fun _ => 0)))] H := hP
  have hD : va_D A [(h, .inr (12, [.ref h_1, .null, .null, .null, .null, .null, .int 0, .int 0, .int 0])), (h_1, .inr (1, [.int 0, .ref G.2.2.2.2.2.2.2, .int 0])), (h_5, .inl (G.2.1, 8, .inl (fun _ => 0)))] := hD
  refine va_putF (D := sx_D G) (ci := 12) (v := .ref h_5) (ty := tyX10 1) (C := RX10) (T := TX10) (N := 9) hx hb hts inX10 tyX10 tyX10_ok nmX10 hown hK hP hD hS 0 rfl rfl 1 (by decide) (hts _ q873) (fun _ h9 => h9) rfl hnm rfl (by decide +kernel) rfl rfl (Nat.le_of_ble_eq_true rfl) dX10_init_20 (fun H locs hP hD hS => ?_)
  have hP : va_P (sx_D G) vwCl [(h, .inr (12, [.ref h_1, .ref h_5, .null, .null, .null, .null, .int 0, .int 0, .int 0])), (h_1, .inr (1, [.int 0, .ref G.2.2.2.2.2.2.2, .int 0])), (h_5, .inl (G.2.1, 8, .inl (fun _ => 0)))] H := hP
  have hD : va_D A [(h, .inr (12, [.ref h_1, .ref h_5, .null, .null, .null, .null, .int 0, .int 0, .int 0])), (h_1, .inr (1, [.int 0, .ref G.2.2.2.2.2.2.2, .int 0])), (h_5, .inl (G.2.1, 8, .inl (fun _ => 0)))] := hD
  refine lv_aload_n hx hb dX10_init_23 rfl (lv_at hl 0 rfl) ?_
  refine lv_bipush (v := 6) hx hb dX10_init_24 (by decide) ?_
  refine sx_newi hx hb (hts _ q106) hK hP hD hS hA 6 (by decide) (by decide) (Nat.le_of_ble_eq_true rfl) (Nat.le_of_ble_eq_true rfl) (Nat.le_of_ble_eq_true rfl) dX10_init_26 (fun h_6 H hP hD hS => ?_)
  have hP : va_P (sx_D G) vwCl [(h, .inr (12, [.ref h_1, .ref h_5, .null, .null, .null, .null, .int 0, .int 0, .int 0])), (h_1, .inr (1, [.int 0, .ref G.2.2.2.2.2.2.2, .int 0])), (h_5, .inl (G.2.1, 8, .inl (fun _ => 0))), (h_6, .inl (G.2.1, 6, .inl (fun _ => 0)))] H := hP
  have hD : va_D A [(h, .inr (12, [.ref h_1, .ref h_5, .null, .null, .null, .null, .int 0, .int 0, .int 0])), (h_1, .inr (1, [.int 0, .ref G.2.2.2.2.2.2.2, .int 0])), (h_5, .inl (G.2.1, 8, .inl (fun _ => 0))), (h_6, .inl (G.2.1, 6, .inl (fun _ => 0)))] := hD
  refine va_putF (D := sx_D G) (ci := 12) (v := .ref h_6) (ty := tyX10 2) (C := RX10) (T := TX10) (N := 9) hx hb hts inX10 tyX10 tyX10_ok nmX10 hown hK hP hD hS 0 rfl rfl 2 (by decide) (hts _ q875) (fun _ h9 => h9) rfl hnm rfl (by decide +kernel) rfl rfl (Nat.le_of_ble_eq_true rfl) dX10_init_28 (fun H locs hP hD hS => ?_)
  have hP : va_P (sx_D G) vwCl [(h, .inr (12, [.ref h_1, .ref h_5, .ref h_6, .null, .null, .null, .int 0, .int 0, .int 0])), (h_1, .inr (1, [.int 0, .ref G.2.2.2.2.2.2.2, .int 0])), (h_5, .inl (G.2.1, 8, .inl (fun _ => 0))), (h_6, .inl (G.2.1, 6, .inl (fun _ => 0)))] H := hP
  have hD : va_D A [(h, .inr (12, [.ref h_1, .ref h_5, .ref h_6, .null, .null, .null, .int 0, .int 0, .int 0])), (h_1, .inr (1, [.int 0, .ref G.2.2.2.2.2.2.2, .int 0])), (h_5, .inl (G.2.1, 8, .inl (fun _ => 0))), (h_6, .inl (G.2.1, 6, .inl (fun _ => 0)))] := hD
  refine lv_aload_n hx hb dX10_init_31 rfl (lv_at hl 0 rfl) ?_
  refine va_new (ci := 1) (fs := [.int 0, .null, .int 0]) (C := RJx4a65c) (T := TJx4a65c) (N := 3) hx hb hts inJx4a65c tyJx4a65c tyJx4a65c_ok hown (hts _ q842) (hts _ q843) (hts _ q13) hK hP hD hS hA rfl (fun j hj => by rcases (show j = 0 ∨ j = 1 ∨ j = 2 by omega) with rfl | rfl | rfl <;> rfl) (Nat.le_of_ble_eq_true rfl) (Nat.le_of_ble_eq_true rfl) dX10_init_32 (fun h_7 H hP hD hS => ?_)
  have hP : va_P (sx_D G) vwCl [(h, .inr (12, [.ref h_1, .ref h_5, .ref h_6, .null, .null, .null, .int 0, .int 0, .int 0])), (h_1, .inr (1, [.int 0, .ref G.2.2.2.2.2.2.2, .int 0])), (h_5, .inl (G.2.1, 8, .inl (fun _ => 0))), (h_6, .inl (G.2.1, 6, .inl (fun _ => 0))), (h_7, .inr (1, [.int 0, .null, .int 0]))] H := hP
  have hD : va_D A [(h, .inr (12, [.ref h_1, .ref h_5, .ref h_6, .null, .null, .null, .int 0, .int 0, .int 0])), (h_1, .inr (1, [.int 0, .ref G.2.2.2.2.2.2.2, .int 0])), (h_5, .inl (G.2.1, 8, .inl (fun _ => 0))), (h_6, .inl (G.2.1, 6, .inl (fun _ => 0))), (h_7, .inr (1, [.int 0, .null, .int 0]))] := hD
  refine lv_dup hx hb dX10_init_35 rfl ?_
  have hcut : sx_cut [(h, .inr (12, [.ref h_1, .ref h_5, .ref h_6, .null, .null, .null, .int 0, .int 0, .int 0])), (h_1, .inr (1, [.int 0, .ref G.2.2.2.2.2.2.2, .int 0])), (h_5, .inl (G.2.1, 8, .inl (fun _ => 0))), (h_6, .inl (G.2.1, 6, .inl (fun _ => 0))), (h_7, .inr (1, [.int 0, .null, .int 0]))] [(h_7, .inr (1, [.int 0, .null, .int 0]))] [(h, .inr (12, [.ref h_1, .ref h_5, .ref h_6, .null, .null, .null, .int 0, .int 0, .int 0])), (h_1, .inr (1, [.int 0, .ref G.2.2.2.2.2.2.2, .int 0])), (h_5, .inl (G.2.1, 8, .inl (fun _ => 0))), (h_6, .inl (G.2.1, 6, .inl (fun _ => 0)))] [4] [0, 1, 2, 3] := ⟨rfl, rfl, by decide, by decide, by decide⟩
  refine sx_kv (sx_runI (As := []) (rest := [.ref h_7, .ref h]) F (m_Jx4a65c_init_da8c8 l G H.size h_7) mi_Jx4a65c_init_da8c8 q845 rfl q844 ⟨⟨Nat.le_of_ble_eq_true rfl, Nat.le_of_ble_eq_true rfl⟩, Nat.le_of_ble_eq_true rfl, Nat.le_of_ble_eq_true rfl⟩ hcut hP hD hS rfl hl.1 rfl (Nat.le_of_ble_eq_true rfl) dX10_init_36) hcut hP hD hS hA (fun u_8 H locs w_9 hP hD hS => ?_)
  have hP : va_P (sx_D G) vwCl [(h, .inr (12, [.ref h_1, .ref h_5, .ref h_6, .null, .null, .null, .int 0, .int 0, .int 0])), (h_1, .inr (1, [.int 0, .ref G.2.2.2.2.2.2.2, .int 0])), (h_5, .inl (G.2.1, 8, .inl (fun _ => 0))), (h_6, .inl (G.2.1, 6, .inl (fun _ => 0))), (h_7, .inr (1, [.int 0, .ref G.2.2.2.2.2.2.2, .int 0]))] H := hP
  have hD : va_D A [(h, .inr (12, [.ref h_1, .ref h_5, .ref h_6, .null, .null, .null, .int 0, .int 0, .int 0])), (h_1, .inr (1, [.int 0, .ref G.2.2.2.2.2.2.2, .int 0])), (h_5, .inl (G.2.1, 8, .inl (fun _ => 0))), (h_6, .inl (G.2.1, 6, .inl (fun _ => 0))), (h_7, .inr (1, [.int 0, .ref G.2.2.2.2.2.2.2, .int 0]))] := hD
  refine va_putF (D := sx_D G) (ci := 12) (v := .ref h_7) (ty := tyX10 3) (C := RX10) (T := TX10) (N := 9) hx hb hts inX10 tyX10 tyX10_ok nmX10 hown hK hP hD hS 0 rfl rfl 3 (by decide) (hts _ q877) (fun _ h9 => h9) rfl hnm rfl (by decide +kernel) rfl rfl (Nat.le_of_ble_eq_true rfl) dX10_init_39 (fun H locs hP hD hS => ?_)
  have hP : va_P (sx_D G) vwCl [(h, .inr (12, [.ref h_1, .ref h_5, .ref h_6, .ref h_7, .null, .null, .int 0, .int 0, .int 0])), (h_1, .inr (1, [.int 0, .ref G.2.2.2.2.2.2.2, .int 0])), (h_5, .inl (G.2.1, 8, .inl (fun _ => 0))), (h_6, .inl (G.2.1, 6, .inl (fun _ => 0))), (h_7, .inr (1, [.int 0, .ref G.2.2.2.2.2.2.2, .int 0]))] H := hP
  have hD : va_D A [(h, .inr (12, [.ref h_1, .ref h_5, .ref h_6, .ref h_7, .null, .null, .int 0, .int 0, .int 0])), (h_1, .inr (1, [.int 0, .ref G.2.2.2.2.2.2.2, .int 0])), (h_5, .inl (G.2.1, 8, .inl (fun _ => 0))), (h_6, .inl (G.2.1, 6, .inl (fun _ => 0))), (h_7, .inr (1, [.int 0, .ref G.2.2.2.2.2.2.2, .int 0]))] := hD
  refine lv_aload_n hx hb dX10_init_42 rfl (lv_at hl 0 rfl) ?_
  refine va_new (ci := 1) (fs := [.int 0, .null, .int 0]) (C := RJx4a65c) (T := TJx4a65c) (N := 3) hx hb hts inJx4a65c tyJx4a65c tyJx4a65c_ok hown (hts _ q842) (hts _ q843) (hts _ q13) hK hP hD hS hA rfl (fun j hj => by rcases (show j = 0 ∨ j = 1 ∨ j = 2 by omega) with rfl | rfl | rfl <;> rfl) (Nat.le_of_ble_eq_true rfl) (Nat.le_of_ble_eq_true rfl) dX10_init_43 (fun h_11 H hP hD hS => ?_)
  have hP : va_P (sx_D G) vwCl [(h, .inr (12, [.ref h_1, .ref h_5, .ref h_6, .ref h_7, .null, .null, .int 0, .int 0, .int 0])), (h_1, .inr (1, [.int 0, .ref G.2.2.2.2.2.2.2, .int 0])), (h_5, .inl (G.2.1, 8, .inl (fun _ => 0))), (h_6, .inl (G.2.1, 6, .inl (fun _ => 0))), (h_7, .inr (1, [.int 0, .ref G.2.2.2.2.2.2.2, .int 0])), (h_11, .inr (1, [.int 0, .null, .int 0]))] H := hP
  have hD : va_D A [(h, .inr (12, [.ref h_1, .ref h_5, .ref h_6, .ref h_7, .null, .null, .int 0, .int 0, .int 0])), (h_1, .inr (1, [.int 0, .ref G.2.2.2.2.2.2.2, .int 0])), (h_5, .inl (G.2.1, 8, .inl (fun _ => 0))), (h_6, .inl (G.2.1, 6, .inl (fun _ => 0))), (h_7, .inr (1, [.int 0, .ref G.2.2.2.2.2.2.2, .int 0])), (h_11, .inr (1, [.int 0, .null, .int 0]))] := hD
  refine lv_dup hx hb dX10_init_46 rfl ?_
  have hcut : sx_cut [(h, .inr (12, [.ref h_1, .ref h_5, .ref h_6, .ref h_7, .null, .null, .int 0, .int 0, .int 0])), (h_1, .inr (1, [.int 0, .ref G.2.2.2.2.2.2.2, .int 0])), (h_5, .inl (G.2.1, 8, .inl (fun _ => 0))), (h_6, .inl (G.2.1, 6, .inl (fun _ => 0))), (h_7, .inr (1, [.int 0, .ref G.2.2.2.2.2.2.2, .int 0])), (h_11, .inr (1, [.int 0, .null, .int 0]))] [(h_11, .inr (1, [.int 0, .null, .int 0]))] [(h, .inr (12, [.ref h_1, .ref h_5, .ref h_6, .ref h_7, .null, .null, .int 0, .int 0, .int 0])), (h_1, .inr (1, [.int 0, .ref G.2.2.2.2.2.2.2, .int 0])), (h_5, .inl (G.2.1, 8, .inl (fun _ => 0))), (h_6, .inl (G.2.1, 6, .inl (fun _ => 0))), (h_7, .inr (1, [.int 0, .ref G.2.2.2.2.2.2.2, .int 0]))] [5] [0, 1, 2, 3, 4] := ⟨rfl, rfl, by decide, by decide, by decide⟩
  refine sx_kv (sx_runI (As := []) (rest := [.ref h_11, .ref h]) F (m_Jx4a65c_init_da8c8 l G H.size h_11) mi_Jx4a65c_init_da8c8 q845 rfl q844 ⟨⟨Nat.le_of_ble_eq_true rfl, Nat.le_of_ble_eq_true rfl⟩, Nat.le_of_ble_eq_true rfl, Nat.le_of_ble_eq_true rfl⟩ hcut hP hD hS rfl hl.1 rfl (Nat.le_of_ble_eq_true rfl) dX10_init_47) hcut hP hD hS hA (fun u_12 H locs w_13 hP hD hS => ?_)
  have hP : va_P (sx_D G) vwCl [(h, .inr (12, [.ref h_1, .ref h_5, .ref h_6, .ref h_7, .null, .null, .int 0, .int 0, .int 0])), (h_1, .inr (1, [.int 0, .ref G.2.2.2.2.2.2.2, .int 0])), (h_5, .inl (G.2.1, 8, .inl (fun _ => 0))), (h_6, .inl (G.2.1, 6, .inl (fun _ => 0))), (h_7, .inr (1, [.int 0, .ref G.2.2.2.2.2.2.2, .int 0])), (h_11, .inr (1, [.int 0, .ref G.2.2.2.2.2.2.2, .int 0]))] H := hP
  have hD : va_D A [(h, .inr (12, [.ref h_1, .ref h_5, .ref h_6, .ref h_7, .null, .null, .int 0, .int 0, .int 0])), (h_1, .inr (1, [.int 0, .ref G.2.2.2.2.2.2.2, .int 0])), (h_5, .inl (G.2.1, 8, .inl (fun _ => 0))), (h_6, .inl (G.2.1, 6, .inl (fun _ => 0))), (h_7, .inr (1, [.int 0, .ref G.2.2.2.2.2.2.2, .int 0])), (h_11, .inr (1, [.int 0, .ref G.2.2.2.2.2.2.2, .int 0]))] := hD
  refine va_putF (D := sx_D G) (ci := 12) (v := .ref h_11) (ty := tyX10 4) (C := RX10) (T := TX10) (N := 9) hx hb hts inX10 tyX10 tyX10_ok nmX10 hown hK hP hD hS 0 rfl rfl 4 (by decide) (hts _ q879) (fun _ h9 => h9) rfl hnm rfl (by decide +kernel) rfl rfl (Nat.le_of_ble_eq_true rfl) dX10_init_50 (fun H locs hP hD hS => ?_)
  have hP : va_P (sx_D G) vwCl [(h, .inr (12, [.ref h_1, .ref h_5, .ref h_6, .ref h_7, .ref h_11, .null, .int 0, .int 0, .int 0])), (h_1, .inr (1, [.int 0, .ref G.2.2.2.2.2.2.2, .int 0])), (h_5, .inl (G.2.1, 8, .inl (fun _ => 0))), (h_6, .inl (G.2.1, 6, .inl (fun _ => 0))), (h_7, .inr (1, [.int 0, .ref G.2.2.2.2.2.2.2, .int 0])), (h_11, .inr (1, [.int 0, .ref G.2.2.2.2.2.2.2, .int 0]))] H := hP
  have hD : va_D A [(h, .inr (12, [.ref h_1, .ref h_5, .ref h_6, .ref h_7, .ref h_11, .null, .int 0, .int 0, .int 0])), (h_1, .inr (1, [.int 0, .ref G.2.2.2.2.2.2.2, .int 0])), (h_5, .inl (G.2.1, 8, .inl (fun _ => 0))), (h_6, .inl (G.2.1, 6, .inl (fun _ => 0))), (h_7, .inr (1, [.int 0, .ref G.2.2.2.2.2.2.2, .int 0])), (h_11, .inr (1, [.int 0, .ref G.2.2.2.2.2.2.2, .int 0]))] := hD
  refine lv_aload_n hx hb dX10_init_53 rfl (lv_at hl 0 rfl) ?_
  refine va_new (ci := 1) (fs := [.int 0, .null, .int 0]) (C := RJx4a65c) (T := TJx4a65c) (N := 3) hx hb hts inJx4a65c tyJx4a65c tyJx4a65c_ok hown (hts _ q842) (hts _ q843) (hts _ q13) hK hP hD hS hA rfl (fun j hj => by rcases (show j = 0 ∨ j = 1 ∨ j = 2 by omega) with rfl | rfl | rfl <;> rfl) (Nat.le_of_ble_eq_true rfl) (Nat.le_of_ble_eq_true rfl) dX10_init_54 (fun h_15 H hP hD hS => ?_)
  have hP : va_P (sx_D G) vwCl [(h, .inr (12, [.ref h_1, .ref h_5, .ref h_6, .ref h_7, .ref h_11, .null, .int 0, .int 0, .int 0])), (h_1, .inr (1, [.int 0, .ref G.2.2.2.2.2.2.2, .int 0])), (h_5, .inl (G.2.1, 8, .inl (fun _ => 0))), (h_6, .inl (G.2.1, 6, .inl (fun _ => 0))), (h_7, .inr (1, [.int 0, .ref G.2.2.2.2.2.2.2, .int 0])), (h_11, .inr (1, [.int 0, .ref G.2.2.2.2.2.2.2, .int 0])), (h_15, .inr (1, [.int 0, .null, .int 0]))] H := hP
  have hD : va_D A [(h, .inr (12, [.ref h_1, .ref h_5, .ref h_6, .ref h_7, .ref h_11, .null, .int 0, .int 0, .int 0])), (h_1, .inr (1, [.int 0, .ref G.2.2.2.2.2.2.2, .int 0])), (h_5, .inl (G.2.1, 8, .inl (fun _ => 0))), (h_6, .inl (G.2.1, 6, .inl (fun _ => 0))), (h_7, .inr (1, [.int 0, .ref G.2.2.2.2.2.2.2, .int 0])), (h_11, .inr (1, [.int 0, .ref G.2.2.2.2.2.2.2, .int 0])), (h_15, .inr (1, [.int 0, .null, .int 0]))] := hD
  refine lv_dup hx hb dX10_init_57 rfl ?_
  have hcut : sx_cut [(h, .inr (12, [.ref h_1, .ref h_5, .ref h_6, .ref h_7, .ref h_11, .null, .int 0, .int 0, .int 0])), (h_1, .inr (1, [.int 0, .ref G.2.2.2.2.2.2.2, .int 0])), (h_5, .inl (G.2.1, 8, .inl (fun _ => 0))), (h_6, .inl (G.2.1, 6, .inl (fun _ => 0))), (h_7, .inr (1, [.int 0, .ref G.2.2.2.2.2.2.2, .int 0])), (h_11, .inr (1, [.int 0, .ref G.2.2.2.2.2.2.2, .int 0])), (h_15, .inr (1, [.int 0, .null, .int 0]))] [(h_15, .inr (1, [.int 0, .null, .int 0]))] [(h, .inr (12, [.ref h_1, .ref h_5, .ref h_6, .ref h_7, .ref h_11, .null, .int 0, .int 0, .int 0])), (h_1, .inr (1, [.int 0, .ref G.2.2.2.2.2.2.2, .int 0])), (h_5, .inl (G.2.1, 8, .inl (fun _ => 0))), (h_6, .inl (G.2.1, 6, .inl (fun _ => 0))), (h_7, .inr (1, [.int 0, .ref G.2.2.2.2.2.2.2, .int 0])), (h_11, .inr (1, [.int 0, .ref G.2.2.2.2.2.2.2, .int 0]))] [6] [0, 1, 2, 3, 4, 5] := ⟨rfl, rfl, by decide, by decide, by decide⟩
  refine sx_kv (sx_runI (As := []) (rest := [.ref h_15, .ref h]) F (m_Jx4a65c_init_da8c8 l G H.size h_15) mi_Jx4a65c_init_da8c8 q845 rfl q844 ⟨⟨Nat.le_of_ble_eq_true rfl, Nat.le_of_ble_eq_true rfl⟩, Nat.le_of_ble_eq_true rfl, Nat.le_of_ble_eq_true rfl⟩ hcut hP hD hS rfl hl.1 rfl (Nat.le_of_ble_eq_true rfl) dX10_init_58) hcut hP hD hS hA (fun u_16 H locs w_17 hP hD hS => ?_)
  have hP : va_P (sx_D G) vwCl [(h, .inr (12, [.ref h_1, .ref h_5, .ref h_6, .ref h_7, .ref h_11, .null, .int 0, .int 0, .int 0])), (h_1, .inr (1, [.int 0, .ref G.2.2.2.2.2.2.2, .int 0])), (h_5, .inl (G.2.1, 8, .inl (fun _ => 0))), (h_6, .inl (G.2.1, 6, .inl (fun _ => 0))), (h_7, .inr (1, [.int 0, .ref G.2.2.2.2.2.2.2, .int 0])), (h_11, .inr (1, [.int 0, .ref G.2.2.2.2.2.2.2, .int 0])), (h_15, .inr (1, [.int 0, .ref G.2.2.2.2.2.2.2, .int 0]))] H := hP
  have hD : va_D A [(h, .inr (12, [.ref h_1, .ref h_5, .ref h_6, .ref h_7, .ref h_11, .null, .int 0, .int 0, .int 0])), (h_1, .inr (1, [.int 0, .ref G.2.2.2.2.2.2.2, .int 0])), (h_5, .inl (G.2.1, 8, .inl (fun _ => 0))), (h_6, .inl (G.2.1, 6, .inl (fun _ => 0))), (h_7, .inr (1, [.int 0, .ref G.2.2.2.2.2.2.2, .int 0])), (h_11, .inr (1, [.int 0, .ref G.2.2.2.2.2.2.2, .int 0])), (h_15, .inr (1, [.int 0, .ref G.2.2.2.2.2.2.2, .int 0]))] := hD
  refine va_putF (D := sx_D G) (ci := 12) (v := .ref h_15) (ty := tyX10 5) (C := RX10) (T := TX10) (N := 9) hx hb hts inX10 tyX10 tyX10_ok nmX10 hown hK hP hD hS 0 rfl rfl 5 (by decide) (hts _ q881) (fun _ h9 => h9) rfl hnm rfl (by decide +kernel) rfl rfl (Nat.le_of_ble_eq_true rfl) dX10_init_61 (fun H locs hP hD hS => ?_)
  have hP : va_P (sx_D G) vwCl [(h, .inr (12, [.ref h_1, .ref h_5, .ref h_6, .ref h_7, .ref h_11, .ref h_15, .int 0, .int 0, .int 0])), (h_1, .inr (1, [.int 0, .ref G.2.2.2.2.2.2.2, .int 0])), (h_5, .inl (G.2.1, 8, .inl (fun _ => 0))), (h_6, .inl (G.2.1, 6, .inl (fun _ => 0))), (h_7, .inr (1, [.int 0, .ref G.2.2.2.2.2.2.2, .int 0])), (h_11, .inr (1, [.int 0, .ref G.2.2.2.2.2.2.2, .int 0])), (h_15, .inr (1, [.int 0, .ref G.2.2.2.2.2.2.2, .int 0]))] H := hP
  have hD : va_D A [(h, .inr (12, [.ref h_1, .ref h_5, .ref h_6, .ref h_7, .ref h_11, .ref h_15, .int 0, .int 0, .int 0])), (h_1, .inr (1, [.int 0, .ref G.2.2.2.2.2.2.2, .int 0])), (h_5, .inl (G.2.1, 8, .inl (fun _ => 0))), (h_6, .inl (G.2.1, 6, .inl (fun _ => 0))), (h_7, .inr (1, [.int 0, .ref G.2.2.2.2.2.2.2, .int 0])), (h_11, .inr (1, [.int 0, .ref G.2.2.2.2.2.2.2, .int 0])), (h_15, .inr (1, [.int 0, .ref G.2.2.2.2.2.2.2, .int 0]))] := hD
  exact (sx_vret (ux [h_1, h_5, h_6, h_7, h_11, h_15]) hx hb hr hlk hP hD hS trivial dX10_init_64 rfl rfl)
set_option maxHeartbeats 4000000 in
set_option maxRecDepth 100000 in
theorem m_X14_init (l : Launch) (G : sx_G) (sz : Nat) (h : Nat) : sx_Met l yX14_init cX14_init 1 none 5 92 7 35 G [.ref h] [(h, .inr (16, [.int 0, .null, .long 0]))] sz (sx_Qv G (fun (u : Nat → Nat) => True) (fun (u : Nat → Nat) => [(h, .inr (16, [.int 0, .ref (u 0), .long 0])), ((u 0), .inr (12, [.ref (u 1), .ref (u 2), .ref (u 3), .ref (u 4), .ref (u 5), .ref (u 6), .int 0, .int 0, .int 0])), ((u 1), .inr (1, [.int 0, .ref G.2.2.2.2.2.2.2, .int 0])), ((u 2), .inl (G.2.1, 8, .inl (fun _ => 0))), ((u 3), .inl (G.2.1, 6, .inl (fun _ => 0))), ((u 4), .inr (1, [.int 0, .ref G.2.2.2.2.2.2.2, .int 0])), ((u 5), .inr (1, [.int 0, .ref G.2.2.2.2.2.2.2, .int 0])), ((u 6), .inr (1, [.int 0, .ref G.2.2.2.2.2.2.2, .int 0]))])) := by
  refine sx_start (by decide) rfl (fun p e s m below meth c A ls F hr hlk hnm hP hD hS hl => ?_)
  obtain ⟨hx, hb, hml, hown, hts, hK, hE, hA⟩ := id F
  have hown : s.vm.findClass RX14 = some m.cls := hown
  generalize hHe : s.heap = H at hP
  have hS : va_S A s.heap H [] := by rw [← hHe]; exact va_S.rf
  have hl : lv_has ls 1 [(0, .ref h)] := hl
  refine lv_aload_n hx hb dX14_init_0 rfl (lv_at hl 0 rfl) ?_
  refine W.objInit hx hb hown (hts _ q835) (hts _ q39) (hts _ q40) rfl (by rw [hml]; exact hl.1) rfl dX14_init_1 (Nat.le_of_ble_eq_true rfl) (Nat.le_of_ble_eq_true rfl) ?_
  refine W.eq (g2 := F0 m 4 ls []) rfl ?_
  refine lv_aload_n hx hb dX14_init_4 rfl (lv_at hl 0 rfl) ?_
  refine va_new (ci := 12) (fs := [.null, .null, .null, .null, .null, .null, .int 0, .int 0, .int 0]) (C := RX10) (T := TX10) (N := 9) hx hb hts inX10 tyX10 tyX10_ok hown (hts _ q836) (hts _ q837) (hts _ q10) hK hP hD hS hA rfl (fun j hj => by rcases (show j = 0 ∨ j = 1 ∨ j = 2 ∨ j = 3 ∨ j = 4 ∨ j = 5 ∨ j = 6 ∨ j = 7 ∨ j = 8 by omega) with rfl | rfl | rfl | rfl | rfl | rfl | rfl | rfl | rfl <;> rfl) (Nat.le_of_ble_eq_true rfl) (Nat.le_of_ble_eq_true rfl) dX14_init_5 (fun h_1 H hP hD hS => ?_)
  have hP : va_P (sx_D G) vwCl [(h, .inr (16, [.int 0, .null, .long 0])), (h_1, .inr (12, [.null, .null, .null, .null, .null, .null, .int 0, .int 0, .int 0]))] H := hP
  have hD : va_D A [(h, .inr (16, [.int 0, .null, .long 0])), (h_1, .inr (12, [.null, .null, .null, .null, .null, .null, .int 0, .int 0, .int 0]))] := hD
  refine lv_dup hx hb dX14_init_8 rfl ?_
  have hcut : sx_cut [(h, .inr (16, [.int 0, .null, .long 0])), (h_1, .inr (12, [.null, .null, .null, .null, .null, .null, .int 0, .int 0, .int 0]))] [(h_1, .inr (12, [.null, .null, .null, .null, .null, .null, .int 0, .int 0, .int 0]))] [(h, .inr (16, [.int 0, .null, .long 0]))] [1] [0] := ⟨rfl, rfl, by decide, by decide, by decide⟩
  refine sx_kv (sx_runIN (As := []) (rest := [.ref h_1, .ref h]) F (m_X10_init l G H.size h_1) mi_X10_init q839 rfl q838 ⟨⟨Nat.le_of_ble_eq_true rfl, Nat.le_of_ble_eq_true rfl⟩, Nat.le_of_ble_eq_true rfl, Nat.le_of_ble_eq_true rfl⟩ hcut hP hD hS rfl hl.1 rfl (Nat.le_of_ble_eq_true rfl) dX14_init_9) hcut hP hD hS hA (fun u_2 H locs w_3 hP hD hS => ?_)
  have hP : va_P (sx_D G) vwCl [(h, .inr (16, [.int 0, .null, .long 0])), (h_1, .inr (12, [.ref (u_2 0), .ref (u_2 1), .ref (u_2 2), .ref (u_2 3), .ref (u_2 4), .ref (u_2 5), .int 0, .int 0, .int 0])), ((u_2 0), .inr (1, [.int 0, .ref G.2.2.2.2.2.2.2, .int 0])), ((u_2 1), .inl (G.2.1, 8, .inl (fun _ => 0))), ((u_2 2), .inl (G.2.1, 6, .inl (fun _ => 0))), ((u_2 3), .inr (1, [.int 0, .ref G.2.2.2.2.2.2.2, .int 0])), ((u_2 4), .inr (1, [.int 0, .ref G.2.2.2.2.2.2.2, .int 0])), ((u_2 5), .inr (1, [.int 0, .ref G.2.2.2.2.2.2.2, .int 0]))] H := hP
  have hD : va_D A [(h, .inr (16, [.int 0, .null, .long 0])), (h_1, .inr (12, [.ref (u_2 0), .ref (u_2 1), .ref (u_2 2), .ref (u_2 3), .ref (u_2 4), .ref (u_2 5), .int 0, .int 0, .int 0])), ((u_2 0), .inr (1, [.int 0, .ref G.2.2.2.2.2.2.2, .int 0])), ((u_2 1), .inl (G.2.1, 8, .inl (fun _ => 0))), ((u_2 2), .inl (G.2.1, 6, .inl (fun _ => 0))), ((u_2 3), .inr (1, [.int 0, .ref G.2.2.2.2.2.2.2, .int 0])), ((u_2 4), .inr (1, [.int 0, .ref G.2.2.2.2.2.2.2, .int 0])), ((u_2 5), .inr (1, [.int 0, .ref G.2.2.2.2.2.2.2, .int 0]))] := hD
  refine va_put (D := sx_D G) (ci := 16) (v := .ref h_1) (ty := tyX14 1) (C := RX14) (T := TX14) (N := 3) hx hb hts inX14 tyX14 tyX14_ok nmX14 hown hK hP hD hS 0 rfl rfl 1 (by decide) (hts _ q909) (fun _ h9 => h9) rfl (by decide +kernel) rfl rfl (Nat.le_of_ble_eq_true rfl) dX14_init_12 (fun H locs hP hD hS => ?_)
  have hP : va_P (sx_D G) vwCl [(h, .inr (16, [.int 0, .ref h_1, .long 0])), (h_1, .inr (12, [.ref (u_2 0), .ref (u_2 1), .ref (u_2 2), .ref (u_2 3), .ref (u_2 4), .ref (u_2 5), .int 0, .int 0, .int 0])), ((u_2 0), .inr (1, [.int 0, .ref G.2.2.2.2.2.2.2, .int 0])), ((u_2 1), .inl (G.2.1, 8, .inl (fun _ => 0))), ((u_2 2), .inl (G.2.1, 6, .inl (fun _ => 0))), ((u_2 3), .inr (1, [.int 0, .ref G.2.2.2.2.2.2.2, .int 0])), ((u_2 4), .inr (1, [.int 0, .ref G.2.2.2.2.2.2.2, .int 0])), ((u_2 5), .inr (1, [.int 0, .ref G.2.2.2.2.2.2.2, .int 0]))] H := hP
  have hD : va_D A [(h, .inr (16, [.int 0, .ref h_1, .long 0])), (h_1, .inr (12, [.ref (u_2 0), .ref (u_2 1), .ref (u_2 2), .ref (u_2 3), .ref (u_2 4), .ref (u_2 5), .int 0, .int 0, .int 0])), ((u_2 0), .inr (1, [.int 0, .ref G.2.2.2.2.2.2.2, .int 0])), ((u_2 1), .inl (G.2.1, 8, .inl (fun _ => 0))), ((u_2 2), .inl (G.2.1, 6, .inl (fun _ => 0))), ((u_2 3), .inr (1, [.int 0, .ref G.2.2.2.2.2.2.2, .int 0])), ((u_2 4), .inr (1, [.int 0, .ref G.2.2.2.2.2.2.2, .int 0])), ((u_2 5), .inr (1, [.int 0, .ref G.2.2.2.2.2.2.2, .int 0]))] := hD
  exact (sx_vret (ux [h_1, (u_2 0), (u_2 1), (u_2 2), (u_2 3), (u_2 4), (u_2 5)]) hx hb hr hlk hP hD hS trivial dX14_init_15 rfl rfl)
set_option maxHeartbeats 4000000 in
set_option maxRecDepth 100000 in
theorem m_Jx35411_init_45d68 (l : Launch) (G : sx_G) (sz : Nat) (it : Nat) (la : Nat) (el : Nat) (mc : Int32) (n : Int32) : sx_Met l yJx35411_init_45d68 cJx35411_init_45d68 2 none 1 12 0 0 G [.ref it, .ref la] [(it, .inr (0, [.int 0, .int 0, .int 0, .null])), (la, .inr (1, [.int mc, .ref el, .int n]))] sz (sx_Qv G (fun (u : Unit) => True) (fun (u : Unit) => [(it, .inr (0, [.int 0, .int (-1), .int mc, .ref la])), (la, .inr (1, [.int mc, .ref el, .int n]))])) := by
  refine sx_start (by decide) rfl (fun p e s m below meth c A ls F hr hlk hnm hP hD hS hl => ?_)
  obtain ⟨hx, hb, hml, hown, hts, hK, hE, hA⟩ := id F
  have hown : s.vm.findClass RJx35411 = some m.cls := hown
  generalize hHe : s.heap = H at hP
  have hS : va_S A s.heap H [] := by rw [← hHe]; exact va_S.rf
  have hl : lv_has ls 2 [(0, .ref it), (1, .ref la)] := hl
  refine lv_aload_n hx hb dJx35411_init_45d68_0 rfl (lv_at hl 0 rfl) ?_
  refine lv_aload_n hx hb dJx35411_init_45d68_1 rfl (lv_at hl 1 rfl) ?_
  refine va_putF (D := sx_D G) (ci := 0) (v := .ref la) (ty := tyJx35411 3) (C := RJx35411) (T := TJx35411) (N := 4) hx hb hts inJx35411 tyJx35411 tyJx35411_ok nmJx35411 hown hK hP hD hS 0 rfl rfl 3 (by decide) (hts _ q1146) (fun _ h9 => h9) rfl hnm rfl (by decide +kernel) rfl rfl (Nat.le_of_ble_eq_true rfl) dJx35411_init_45d68_2 (fun H locs hP hD hS => ?_)
  have hP : va_P (sx_D G) vwCl [(it, .inr (0, [.int 0, .int 0, .int 0, .ref la])), (la, .inr (1, [.int mc, .ref el, .int n]))] H := hP
  have hD : va_D A [(it, .inr (0, [.int 0, .int 0, .int 0, .ref la])), (la, .inr (1, [.int mc, .ref el, .int n]))] := hD
  refine lv_aload_n hx hb dJx35411_init_45d68_5 rfl (lv_at hl 0 rfl) ?_
  refine W.objInit hx hb hown (hts _ q1142) (hts _ q39) (hts _ q40) rfl (by rw [hml]; exact hl.1) rfl dJx35411_init_45d68_6 (Nat.le_of_ble_eq_true rfl) (Nat.le_of_ble_eq_true rfl) ?_
  refine W.eq (g2 := F0 m 9 ls []) rfl ?_
  refine lv_aload_n hx hb dJx35411_init_45d68_9 rfl (lv_at hl 0 rfl) ?_
  refine lv_iconst (v := (-1)) hx hb dJx35411_init_45d68_10 (by decide) ?_
  refine va_put (D := sx_D G) (ci := 0) (v := .int (-1)) (ty := tyJx35411 1) (C := RJx35411) (T := TJx35411) (N := 4) hx hb hts inJx35411 tyJx35411 tyJx35411_ok nmJx35411 hown hK hP hD hS 0 rfl rfl 1 (by decide) (hts _ q1144) (fun _ h9 => h9) rfl (by decide +kernel) rfl rfl (Nat.le_of_ble_eq_true rfl) dJx35411_init_45d68_11 (fun H locs hP hD hS => ?_)
  have hP : va_P (sx_D G) vwCl [(it, .inr (0, [.int 0, .int (-1), .int 0, .ref la])), (la, .inr (1, [.int mc, .ref el, .int n]))] H := hP
  have hD : va_D A [(it, .inr (0, [.int 0, .int (-1), .int 0, .ref la])), (la, .inr (1, [.int mc, .ref el, .int n]))] := hD
  refine lv_aload_n hx hb dJx35411_init_45d68_14 rfl (lv_at hl 0 rfl) ?_
  refine lv_aload_n hx hb dJx35411_init_45d68_15 rfl (lv_at hl 0 rfl) ?_
  refine va_get (D := sx_D G) (ci := 0) (v := .ref la) (C := RJx35411) (T := TJx35411) (N := 4) hx hb hts inJx35411 hown hK hP 0 rfl rfl 3 (by decide) (hts _ q1146) (fun _ h9 => h9) rfl dJx35411_init_45d68_16 ?_
  refine va_get (D := sx_D G) (ci := 1) (v := .int mc) (C := RJx4a65c) (T := TJx4a65c) (N := 3) hx hb hts inJx4a65c hown hK hP 1 rfl rfl 0 (by decide) (hts _ q861) (u_same (hts _ q862)) rfl dJx35411_init_45d68_19 ?_
  refine va_put (D := sx_D G) (ci := 0) (v := .int mc) (ty := tyJx35411 2) (C := RJx35411) (T := TJx35411) (N := 4) hx hb hts inJx35411 tyJx35411 tyJx35411_ok nmJx35411 hown hK hP hD hS 0 rfl rfl 2 (by decide) (hts _ q1145) (fun _ h9 => h9) rfl (by decide +kernel) rfl rfl (Nat.le_of_ble_eq_true rfl) dJx35411_init_45d68_22 (fun H locs hP hD hS => ?_)
  have hP : va_P (sx_D G) vwCl [(it, .inr (0, [.int 0, .int (-1), .int mc, .ref la])), (la, .inr (1, [.int mc, .ref el, .int n]))] H := hP
  have hD : va_D A [(it, .inr (0, [.int 0, .int (-1), .int mc, .ref la])), (la, .inr (1, [.int mc, .ref el, .int n]))] := hD
  exact (sx_vret () hx hb hr hlk hP hD hS trivial dJx35411_init_45d68_25 rfl rfl)
set_option maxHeartbeats 4000000 in
set_option maxRecDepth 100000 in
theorem m_Jx4a65c_iterator_32c93 (l : Launch) (G : sx_G) (sz : Nat) (la : Nat) (el : Nat) (mc : Int32) (n : Int32) : sx_Met l yJx4a65c_iterator_32c93 cJx4a65c_iterator_32c93 1 (some (.object "java/util/Iterator")) 2 33 1 4 G [.ref la] [(la, .inr (1, [.int mc, .ref el, .int n]))] sz (sx_Qr G (fun (u : Unit) => True) (fun (u : Unit) (r : Nat) => [(r, .inr (0, [.int 0, .int (-1), .int mc, .ref la])), (la, .inr (1, [.int mc, .ref el, .int n]))])) := by
  refine sx_start (by decide) rfl (fun p e s m below meth c A ls F hr hlk hnm hP hD hS hl => ?_)
  obtain ⟨hx, hb, hml, hown, hts, hK, hE, hA⟩ := id F
  have hown : s.vm.findClass RJx4a65c = some m.cls := hown
  generalize hHe : s.heap = H at hP
  have hS : va_S A s.heap H [] := by rw [← hHe]; exact va_S.rf
  have hl : lv_has ls 1 [(0, .ref la)] := hl
  refine va_new (ci := 0) (fs := [.int 0, .int 0, .int 0, .null]) (C := RJx35411) (T := TJx35411) (N := 4) hx hb hts inJx35411 tyJx35411 tyJx35411_ok hown (hts _ q1137) (hts _ q1138) (hts _ q28) hK hP hD hS hA rfl (fun j hj => by rcases (show j = 0 ∨ j = 1 ∨ j = 2 ∨ j = 3 by omega) with rfl | rfl | rfl | rfl <;> rfl) (Nat.le_of_ble_eq_true rfl) (Nat.le_of_ble_eq_true rfl) dJx4a65c_iterator_32c93_0 (fun h_1 H hP hD hS => ?_)
  have hP : va_P (sx_D G) vwCl [(la, .inr (1, [.int mc, .ref el, .int n])), (h_1, .inr (0, [.int 0, .int 0, .int 0, .null]))] H := hP
  have hD : va_D A [(la, .inr (1, [.int mc, .ref el, .int n])), (h_1, .inr (0, [.int 0, .int 0, .int 0, .null]))] := hD
  refine lv_dup hx hb dJx4a65c_iterator_32c93_3 rfl ?_
  refine lv_aload_n hx hb dJx4a65c_iterator_32c93_4 rfl (lv_at hl 0 rfl) ?_
  have hcut : sx_cut [(la, .inr (1, [.int mc, .ref el, .int n])), (h_1, .inr (0, [.int 0, .int 0, .int 0, .null]))] [(h_1, .inr (0, [.int 0, .int 0, .int 0, .null])), (la, .inr (1, [.int mc, .ref el, .int n]))] [] [1, 0] [] := ⟨rfl, rfl, by decide, by decide, by decide⟩
  refine sx_kv (sx_runI (As := [.ref la]) (rest := [.ref h_1]) F (m_Jx35411_init_45d68 l G H.size h_1 la el mc n) mi_Jx35411_init_45d68 q1140 rfl q1139 ⟨⟨Nat.le_of_ble_eq_true rfl, Nat.le_of_ble_eq_true rfl⟩, Nat.le_of_ble_eq_true rfl, Nat.le_of_ble_eq_true rfl⟩ hcut hP hD hS rfl hl.1 rfl (Nat.le_of_ble_eq_true rfl) dJx4a65c_iterator_32c93_5) hcut hP hD hS hA (fun u_2 H locs w_3 hP hD hS => ?_)
  have hP : va_P (sx_D G) vwCl [(h_1, .inr (0, [.int 0, .int (-1), .int mc, .ref la])), (la, .inr (1, [.int mc, .ref el, .int n]))] H := hP
  have hD : va_D A [(h_1, .inr (0, [.int 0, .int (-1), .int mc, .ref la])), (la, .inr (1, [.int mc, .ref el, .int n]))] := hD
  exact (sx_aret (v := h_1) () hx hb hr (Or.inl ⟨_, rfl⟩) hlk hP hD hS trivial dJx4a65c_iterator_32c93_8 rfl rfl)
set_option maxHeartbeats 4000000 in
set_option maxRecDepth 100000 in
theorem m_Jx35411_hasNext_aae02 (l : Launch) (G : sx_G) (sz : Nat) (it : Nat) (la : Nat) (el : Nat) (mc : Int32) (last : Int32) (ex : Int32) : sx_Met l yJx35411_hasNext_aae02 cJx35411_hasNext_aae02 1 (some .boolean) 0 0 0 0 G [.ref it] [(it, .inr (0, [.int 0, .int last, .int ex, .ref la])), (la, .inr (1, [.int mc, .ref el, .int 0]))] sz (sx_Qi G (fun (r : Int32) (u : Unit) => r = 0) (fun (u : Unit) => [(it, .inr (0, [.int 0, .int last, .int ex, .ref la])), (la, .inr (1, [.int mc, .ref el, .int 0]))])) := by
  refine sx_start (by decide) rfl (fun p e s m below meth c A ls F hr hlk hnm hP hD hS hl => ?_)
  obtain ⟨hx, hb, hml, hown, hts, hK, hE, hA⟩ := id F
  have hown : s.vm.findClass RJx35411 = some m.cls := hown
  generalize hHe : s.heap = H at hP
  have hS : va_S A s.heap H [] := by rw [← hHe]; exact va_S.rf
  have hl : lv_has ls 1 [(0, .ref it)] := hl
  refine lv_aload_n hx hb dJx35411_hasNext_aae02_0 rfl (lv_at hl 0 rfl) ?_
  refine va_get (D := sx_D G) (ci := 0) (v := .int 0) (C := RJx35411) (T := TJx35411) (N := 4) hx hb hts inJx35411 hown hK hP 0 rfl rfl 0 (by decide) (hts _ q1143) (fun _ h9 => h9) rfl dJx35411_hasNext_aae02_1 ?_
  refine lv_aload_n hx hb dJx35411_hasNext_aae02_4 rfl (lv_at hl 0 rfl) ?_
  refine va_get (D := sx_D G) (ci := 0) (v := .ref la) (C := RJx35411) (T := TJx35411) (N := 4) hx hb hts inJx35411 hown hK hP 0 rfl rfl 3 (by decide) (hts _ q1146) (fun _ h9 => h9) rfl dJx35411_hasNext_aae02_5 ?_
  refine va_getN (D := sx_D G) (ci := 1) (v := .int 0) (C := RJx4a65c) (T := TJx4a65c) (N := 3) hx hb hts inJx4a65c hown hK hP 1 rfl rfl 2 (by decide) (hts _ q858) (fun _ h9 => h9) rfl dJx35411_hasNext_aae02_8 ?_
  refine lv_icmp_eq (tgt := 18) hx hb dJx35411_hasNext_aae02_11 (by decide) (fun c_1 => ?_) (fun c_1 => absurd (by decide) c_1)
  refine lv_iconst (v := 0) hx hb dJx35411_hasNext_aae02_18 (by decide) ?_
  exact (sx_iret (v := 0) () hx hb hr (by decide) hlk hP hD hS rfl dJx35411_hasNext_aae02_19 rfl rfl)
set_option maxHeartbeats 4000000 in
set_option maxRecDepth 100000 in
theorem m_X14_isAction (l : Launch) (G : sx_G) (sz : Nat) (md : Nat) (ha : Nat) (l0 : Nat) (v0 : Nat) (v1 : Nat) (l1 : Nat) (l2 : Nat) (l3 : Nat) (th : Int32) (p0 : Int32) : sx_Met l yX14_isAction cX14_isAction 2 (some .boolean) 1 22 0 0 G [.ref md, .int p0] [(md, .inr (16, [.int th, .ref ha, .long 0])), (ha, .inr (12, [.ref l0, .ref v0, .ref v1, .ref l1, .ref l2, .ref l3, .int 0, .int 0, .int 0])), (l0, .inr (1, [.int 0, .ref G.2.2.2.2.2.2.2, .int 0]))] sz (sx_Qi G (fun (r : Int32) (u : Unit) => r = 0) (fun (u : Unit) => [(md, .inr (16, [.int th, .ref ha, .long 0])), (ha, .inr (12, [.ref l0, .ref v0, .ref v1, .ref l1, .ref l2, .ref l3, .int 0, .int 0, .int 0])), (l0, .inr (1, [.int 0, .ref G.2.2.2.2.2.2.2, .int 0]))])) := by
  refine sx_start (by decide) rfl (fun p e s m below meth c A ls F hr hlk hnm hP hD hS hl => ?_)
  obtain ⟨hx, hb, hml, hown, hts, hK, hE, hA⟩ := id F
  have hown : s.vm.findClass RX14 = some m.cls := hown
  generalize hHe : s.heap = H at hP
  have hS : va_S A s.heap H [] := by rw [← hHe]; exact va_S.rf
  have hl : lv_has ls 2 [(0, .ref md), (1, .int p0)] := hl
  refine lv_iload_n hx hb dX14_isAction_0 rfl (lv_at hl 1 rfl) ?_
  refine lv_iconst (v := 0) hx hb dX14_isAction_1 (by decide) ?_
  refine lv_aload_n hx hb dX14_isAction_2 rfl (lv_at hl 0 rfl) ?_
  refine va_get (D := sx_D G) (ci := 16) (v := .ref ha) (C := RX14) (T := TX14) (N := 3) hx hb hts inX14 hown hK hP 0 rfl rfl 1 (by decide) (hts _ q909) (fun _ h9 => h9) rfl dX14_isAction_3 ?_
  refine va_getN (D := sx_D G) (ci := 12) (v := .ref l0) (C := RX10) (T := TX10) (N := 9) hx hb hts inX10 hown hK hP 1 rfl rfl 0 (by decide) (hts _ q872) (fun _ h9 => h9) rfl dX14_isAction_6 ?_
  have hcut : sx_cut [(md, .inr (16, [.int th, .ref ha, .long 0])), (ha, .inr (12, [.ref l0, .ref v0, .ref v1, .ref l1, .ref l2, .ref l3, .int 0, .int 0, .int 0])), (l0, .inr (1, [.int 0, .ref G.2.2.2.2.2.2.2, .int 0]))] [(l0, .inr (1, [.int 0, .ref G.2.2.2.2.2.2.2, .int 0]))] [(md, .inr (16, [.int th, .ref ha, .long 0])), (ha, .inr (12, [.ref l0, .ref v0, .ref v1, .ref l1, .ref l2, .ref l3, .int 0, .int 0, .int 0]))] [2] [0, 1] := ⟨rfl, rfl, by decide, by decide, by decide⟩
  refine sx_ki (sx_runV (As := []) (rest := [.int 0, .int p0]) F (m_Jx4a65c_size_8abf5 l G H.size l0 G.2.2.2.2.2.2.2 0 0) mi_Jx4a65c_size_8abf5 q927 qs_Jx4a65c_size_8abf5 q926 ⟨⟨Nat.le_of_ble_eq_true rfl, Nat.le_of_ble_eq_true rfl⟩, Nat.le_of_ble_eq_true rfl, Nat.le_of_ble_eq_true rfl⟩ hcut hP hD hS 2 1 rfl rfl rfl hl.1 rfl (Nat.le_of_ble_eq_true rfl) dX14_isAction_9) hcut hP hD hS hA (fun r_3 u_1 H locs w_2 hP hD hS => ?_)
  have hP : va_P (sx_D G) vwCl [(md, .inr (16, [.int th, .ref ha, .long 0])), (ha, .inr (12, [.ref l0, .ref v0, .ref v1, .ref l1, .ref l2, .ref l3, .int 0, .int 0, .int 0])), (l0, .inr (1, [.int 0, .ref G.2.2.2.2.2.2.2, .int 0]))] H := hP
  have hD : va_D A [(md, .inr (16, [.int th, .ref ha, .long 0])), (ha, .inr (12, [.ref l0, .ref v0, .ref v1, .ref l1, .ref l2, .ref l3, .int 0, .int 0, .int 0])), (l0, .inr (1, [.int 0, .ref G.2.2.2.2.2.2.2, .int 0]))] := hD
  have er_3 : r_3 = 0 := w_2
  subst er_3
  refine lv_iconst (v := 1) hx hb dX14_isAction_12 (by decide) ?_
  refine lv_isub hx hb dX14_isAction_13 ?_
  refine lv_topi (fun x_4 ex_4 => ?_)
  have ex_4 : x_4 = ((-1) : Int32) := ex_4.trans (by decide)
  subst ex_4
  have hcut : sx_cut [(md, .inr (16, [.int th, .ref ha, .long 0])), (ha, .inr (12, [.ref l0, .ref v0, .ref v1, .ref l1, .ref l2, .ref l3, .int 0, .int 0, .int 0])), (l0, .inr (1, [.int 0, .ref G.2.2.2.2.2.2.2, .int 0]))] [] [(md, .inr (16, [.int th, .ref ha, .long 0])), (ha, .inr (12, [.ref l0, .ref v0, .ref v1, .ref l1, .ref l2, .ref l3, .int 0, .int 0, .int 0])), (l0, .inr (1, [.int 0, .ref G.2.2.2.2.2.2.2, .int 0]))] [] [0, 1, 2] := ⟨rfl, rfl, by decide, by decide, by decide⟩
  refine sx_ki (sx_runS (As := [.int p0, .int 0, .int (-1)]) (rest := []) F (m_X14_is l G H.size p0 0 (-1)) mi_X14_is q931 q930 ⟨⟨Nat.le_of_ble_eq_true rfl, Nat.le_of_ble_eq_true rfl⟩, Nat.le_of_ble_eq_true rfl, Nat.le_of_ble_eq_true rfl⟩ hcut hP hD hS rfl hl.1 rfl (Nat.le_of_ble_eq_true rfl) dX14_isAction_14) hcut hP hD hS hA (fun r_7 u_5 H locs w_6 hP hD hS => ?_)
  have hP : va_P (sx_D G) vwCl [(md, .inr (16, [.int th, .ref ha, .long 0])), (ha, .inr (12, [.ref l0, .ref v0, .ref v1, .ref l1, .ref l2, .ref l3, .int 0, .int 0, .int 0])), (l0, .inr (1, [.int 0, .ref G.2.2.2.2.2.2.2, .int 0]))] H := hP
  have hD : va_D A [(md, .inr (16, [.int th, .ref ha, .long 0])), (ha, .inr (12, [.ref l0, .ref v0, .ref v1, .ref l1, .ref l2, .ref l3, .int 0, .int 0, .int 0])), (l0, .inr (1, [.int 0, .ref G.2.2.2.2.2.2.2, .int 0]))] := hD
  have w_6 : r_7 = zb (zw 0 (-1) p0) := w_6
  exact (sx_iret (v := r_7) () hx hb hr (zb_narr w_6) hlk hP hD hS (zb_0 w_6) dX14_isAction_17 rfl rfl)
set_option maxHeartbeats 4000000 in
set_option maxRecDepth 100000 in
theorem m_X14_isWorker (l : Launch) (G : sx_G) (sz : Nat) (md : Nat) (ha : Nat) (l0 : Nat) (v0 : Nat) (v1 : Nat) (l1 : Nat) (l2 : Nat) (l3 : Nat) (th : Int32) (p0 : Int32) : sx_Met l yX14_isWorker cX14_isWorker 2 (some .boolean) 1 22 0 0 G [.ref md, .int p0] [(md, .inr (16, [.int th, .ref ha, .long 0])), (ha, .inr (12, [.ref l0, .ref v0, .ref v1, .ref l1, .ref l2, .ref l3, .int 0, .int 0, .int 0])), (l1, .inr (1, [.int 0, .ref G.2.2.2.2.2.2.2, .int 0]))] sz (sx_Qi G (fun (r : Int32) (u : Unit) => r = 0) (fun (u : Unit) => [(md, .inr (16, [.int th, .ref ha, .long 0])), (ha, .inr (12, [.ref l0, .ref v0, .ref v1, .ref l1, .ref l2, .ref l3, .int 0, .int 0, .int 0])), (l1, .inr (1, [.int 0, .ref G.2.2.2.2.2.2.2, .int 0]))])) := by
  refine sx_start (by decide) rfl (fun p e s m below meth c A ls F hr hlk hnm hP hD hS hl => ?_)
  obtain ⟨hx, hb, hml, hown, hts, hK, hE, hA⟩ := id F
  have hown : s.vm.findClass RX14 = some m.cls := hown
  generalize hHe : s.heap = H at hP
  have hS : va_S A s.heap H [] := by rw [← hHe]; exact va_S.rf
  have hl : lv_has ls 2 [(0, .ref md), (1, .int p0)] := hl
  refine lv_iload_n hx hb dX14_isWorker_0 rfl (lv_at hl 1 rfl) ?_
  refine lv_iconst (v := 0) hx hb dX14_isWorker_1 (by decide) ?_
  refine lv_aload_n hx hb dX14_isWorker_2 rfl (lv_at hl 0 rfl) ?_
  refine va_get (D := sx_D G) (ci := 16) (v := .ref ha) (C := RX14) (T := TX14) (N := 3) hx hb hts inX14 hown hK hP 0 rfl rfl 1 (by decide) (hts _ q909) (fun _ h9 => h9) rfl dX14_isWorker_3 ?_
  refine va_getN (D := sx_D G) (ci := 12) (v := .ref l1) (C := RX10) (T := TX10) (N := 9) hx hb hts inX10 hown hK hP 1 rfl rfl 3 (by decide) (hts _ q878) (fun _ h9 => h9) rfl dX14_isWorker_6 ?_
  have hcut : sx_cut [(md, .inr (16, [.int th, .ref ha, .long 0])), (ha, .inr (12, [.ref l0, .ref v0, .ref v1, .ref l1, .ref l2, .ref l3, .int 0, .int 0, .int 0])), (l1, .inr (1, [.int 0, .ref G.2.2.2.2.2.2.2, .int 0]))] [(l1, .inr (1, [.int 0, .ref G.2.2.2.2.2.2.2, .int 0]))] [(md, .inr (16, [.int th, .ref ha, .long 0])), (ha, .inr (12, [.ref l0, .ref v0, .ref v1, .ref l1, .ref l2, .ref l3, .int 0, .int 0, .int 0]))] [2] [0, 1] := ⟨rfl, rfl, by decide, by decide, by decide⟩
  refine sx_ki (sx_runV (As := []) (rest := [.int 0, .int p0]) F (m_Jx4a65c_size_8abf5 l G H.size l1 G.2.2.2.2.2.2.2 0 0) mi_Jx4a65c_size_8abf5 q927 qs_Jx4a65c_size_8abf5 q926 ⟨⟨Nat.le_of_ble_eq_true rfl, Nat.le_of_ble_eq_true rfl⟩, Nat.le_of_ble_eq_true rfl, Nat.le_of_ble_eq_true rfl⟩ hcut hP hD hS 2 1 rfl rfl rfl hl.1 rfl (Nat.le_of_ble_eq_true rfl) dX14_isWorker_9) hcut hP hD hS hA (fun r_3 u_1 H locs w_2 hP hD hS => ?_)
  have hP : va_P (sx_D G) vwCl [(md, .inr (16, [.int th, .ref ha, .long 0])), (ha, .inr (12, [.ref l0, .ref v0, .ref v1, .ref l1, .ref l2, .ref l3, .int 0, .int 0, .int 0])), (l1, .inr (1, [.int 0, .ref G.2.2.2.2.2.2.2, .int 0]))] H := hP
  have hD : va_D A [(md, .inr (16, [.int th, .ref ha, .long 0])), (ha, .inr (12, [.ref l0, .ref v0, .ref v1, .ref l1, .ref l2, .ref l3, .int 0, .int 0, .int 0])), (l1, .inr (1, [.int 0, .ref G.2.2.2.2.2.2.2, .int 0]))] := hD
  have er_3 : r_3 = 0 := w_2
  subst er_3
  refine lv_iconst (v := 1) hx hb dX14_isWorker_12 (by decide) ?_
  refine lv_isub hx hb dX14_isWorker_13 ?_
  refine lv_topi (fun x_4 ex_4 => ?_)
  have ex_4 : x_4 = ((-1) : Int32) := ex_4.trans (by decide)
  subst ex_4
  have hcut : sx_cut [(md, .inr (16, [.int th, .ref ha, .long 0])), (ha, .inr (12, [.ref l0, .ref v0, .ref v1, .ref l1, .ref l2, .ref l3, .int 0, .int 0, .int 0])), (l1, .inr (1, [.int 0, .ref G.2.2.2.2.2.2.2, .int 0]))] [] [(md, .inr (16, [.int th, .ref ha, .long 0])), (ha, .inr (12, [.ref l0, .ref v0, .ref v1, .ref l1, .ref l2, .ref l3, .int 0, .int 0, .int 0])), (l1, .inr (1, [.int 0, .ref G.2.2.2.2.2.2.2, .int 0]))] [] [0, 1, 2] := ⟨rfl, rfl, by decide, by decide, by decide⟩
  refine sx_ki (sx_runS (As := [.int p0, .int 0, .int (-1)]) (rest := []) F (m_X14_is l G H.size p0 0 (-1)) mi_X14_is q931 q930 ⟨⟨Nat.le_of_ble_eq_true rfl, Nat.le_of_ble_eq_true rfl⟩, Nat.le_of_ble_eq_true rfl, Nat.le_of_ble_eq_true rfl⟩ hcut hP hD hS rfl hl.1 rfl (Nat.le_of_ble_eq_true rfl) dX14_isWorker_14) hcut hP hD hS hA (fun r_7 u_5 H locs w_6 hP hD hS => ?_)
  have hP : va_P (sx_D G) vwCl [(md, .inr (16, [.int th, .ref ha, .long 0])), (ha, .inr (12, [.ref l0, .ref v0, .ref v1, .ref l1, .ref l2, .ref l3, .int 0, .int 0, .int 0])), (l1, .inr (1, [.int 0, .ref G.2.2.2.2.2.2.2, .int 0]))] H := hP
  have hD : va_D A [(md, .inr (16, [.int th, .ref ha, .long 0])), (ha, .inr (12, [.ref l0, .ref v0, .ref v1, .ref l1, .ref l2, .ref l3, .int 0, .int 0, .int 0])), (l1, .inr (1, [.int 0, .ref G.2.2.2.2.2.2.2, .int 0]))] := hD
  have w_6 : r_7 = zb (zw 0 (-1) p0) := w_6
  exact (sx_iret (v := r_7) () hx hb hr (zb_narr w_6) hlk hP hD hS (zb_0 w_6) dX14_isWorker_17 rfl rfl)
set_option maxHeartbeats 4000000 in
set_option maxRecDepth 100000 in
theorem m_X14_isTeam (l : Launch) (G : sx_G) (sz : Nat) (md : Nat) (ha : Nat) (l0 : Nat) (v0 : Nat) (v1 : Nat) (l1 : Nat) (l2 : Nat) (l3 : Nat) (th : Int32) (p0 : Int32) : sx_Met l yX14_isTeam cX14_isTeam 2 (some .boolean) 1 22 0 0 G [.ref md, .int p0] [(md, .inr (16, [.int th, .ref ha, .long 0])), (ha, .inr (12, [.ref l0, .ref v0, .ref v1, .ref l1, .ref l2, .ref l3, .int 0, .int 0, .int 0])), (l2, .inr (1, [.int 0, .ref G.2.2.2.2.2.2.2, .int 0]))] sz (sx_Qi G (fun (r : Int32) (u : Unit) => r = 0) (fun (u : Unit) => [(md, .inr (16, [.int th, .ref ha, .long 0])), (ha, .inr (12, [.ref l0, .ref v0, .ref v1, .ref l1, .ref l2, .ref l3, .int 0, .int 0, .int 0])), (l2, .inr (1, [.int 0, .ref G.2.2.2.2.2.2.2, .int 0]))])) := by
  refine sx_start (by decide) rfl (fun p e s m below meth c A ls F hr hlk hnm hP hD hS hl => ?_)
  obtain ⟨hx, hb, hml, hown, hts, hK, hE, hA⟩ := id F
  have hown : s.vm.findClass RX14 = some m.cls := hown
  generalize hHe : s.heap = H at hP
  have hS : va_S A s.heap H [] := by rw [← hHe]; exact va_S.rf
  have hl : lv_has ls 2 [(0, .ref md), (1, .int p0)] := hl
  refine lv_iload_n hx hb dX14_isTeam_0 rfl (lv_at hl 1 rfl) ?_
  refine lv_iconst (v := 0) hx hb dX14_isTeam_1 (by decide) ?_
  refine lv_aload_n hx hb dX14_isTeam_2 rfl (lv_at hl 0 rfl) ?_
  refine va_get (D := sx_D G) (ci := 16) (v := .ref ha) (C := RX14) (T := TX14) (N := 3) hx hb hts inX14 hown hK hP 0 rfl rfl 1 (by decide) (hts _ q909) (fun _ h9 => h9) rfl dX14_isTeam_3 ?_
  refine va_getN (D := sx_D G) (ci := 12) (v := .ref l2) (C := RX10) (T := TX10) (N := 9) hx hb hts inX10 hown hK hP 1 rfl rfl 4 (by decide) (hts _ q880) (fun _ h9 => h9) rfl dX14_isTeam_6 ?_
  have hcut : sx_cut [(md, .inr (16, [.int th, .ref ha, .long 0])), (ha, .inr (12, [.ref l0, .ref v0, .ref v1, .ref l1, .ref l2, .ref l3, .int 0, .int 0, .int 0])), (l2, .inr (1, [.int 0, .ref G.2.2.2.2.2.2.2, .int 0]))] [(l2, .inr (1, [.int 0, .ref G.2.2.2.2.2.2.2, .int 0]))] [(md, .inr (16, [.int th, .ref ha, .long 0])), (ha, .inr (12, [.ref l0, .ref v0, .ref v1, .ref l1, .ref l2, .ref l3, .int 0, .int 0, .int 0]))] [2] [0, 1] := ⟨rfl, rfl, by decide, by decide, by decide⟩
  refine sx_ki (sx_runV (As := []) (rest := [.int 0, .int p0]) F (m_Jx4a65c_size_8abf5 l G H.size l2 G.2.2.2.2.2.2.2 0 0) mi_Jx4a65c_size_8abf5 q927 qs_Jx4a65c_size_8abf5 q926 ⟨⟨Nat.le_of_ble_eq_true rfl, Nat.le_of_ble_eq_true rfl⟩, Nat.le_of_ble_eq_true rfl, Nat.le_of_ble_eq_true rfl⟩ hcut hP hD hS 2 1 rfl rfl rfl hl.1 rfl (Nat.le_of_ble_eq_true rfl) dX14_isTeam_9) hcut hP hD hS hA (fun r_3 u_1 H locs w_2 hP hD hS => ?_)
  have hP : va_P (sx_D G) vwCl [(md, .inr (16, [.int th, .ref ha, .long 0])), (ha, .inr (12, [.ref l0, .ref v0, .ref v1, .ref l1, .ref l2, .ref l3, .int 0, .int 0, .int 0])), (l2, .inr (1, [.int 0, .ref G.2.2.2.2.2.2.2, .int 0]))] H := hP
  have hD : va_D A [(md, .inr (16, [.int th, .ref ha, .long 0])), (ha, .inr (12, [.ref l0, .ref v0, .ref v1, .ref l1, .ref l2, .ref l3, .int 0, .int 0, .int 0])), (l2, .inr (1, [.int 0, .ref G.2.2.2.2.2.2.2, .int 0]))] := hD
  have er_3 : r_3 = 0 := w_2
  subst er_3
  refine lv_iconst (v := 1) hx hb dX14_isTeam_12 (by decide) ?_
  refine lv_isub hx hb dX14_isTeam_13 ?_
  refine lv_topi (fun x_4 ex_4 => ?_)
  have ex_4 : x_4 = ((-1) : Int32) := ex_4.trans (by decide)
  subst ex_4
  have hcut : sx_cut [(md, .inr (16, [.int th, .ref ha, .long 0])), (ha, .inr (12, [.ref l0, .ref v0, .ref v1, .ref l1, .ref l2, .ref l3, .int 0, .int 0, .int 0])), (l2, .inr (1, [.int 0, .ref G.2.2.2.2.2.2.2, .int 0]))] [] [(md, .inr (16, [.int th, .ref ha, .long 0])), (ha, .inr (12, [.ref l0, .ref v0, .ref v1, .ref l1, .ref l2, .ref l3, .int 0, .int 0, .int 0])), (l2, .inr (1, [.int 0, .ref G.2.2.2.2.2.2.2, .int 0]))] [] [0, 1, 2] := ⟨rfl, rfl, by decide, by decide, by decide⟩
  refine sx_ki (sx_runS (As := [.int p0, .int 0, .int (-1)]) (rest := []) F (m_X14_is l G H.size p0 0 (-1)) mi_X14_is q931 q930 ⟨⟨Nat.le_of_ble_eq_true rfl, Nat.le_of_ble_eq_true rfl⟩, Nat.le_of_ble_eq_true rfl, Nat.le_of_ble_eq_true rfl⟩ hcut hP hD hS rfl hl.1 rfl (Nat.le_of_ble_eq_true rfl) dX14_isTeam_14) hcut hP hD hS hA (fun r_7 u_5 H locs w_6 hP hD hS => ?_)
  have hP : va_P (sx_D G) vwCl [(md, .inr (16, [.int th, .ref ha, .long 0])), (ha, .inr (12, [.ref l0, .ref v0, .ref v1, .ref l1, .ref l2, .ref l3, .int 0, .int 0, .int 0])), (l2, .inr (1, [.int 0, .ref G.2.2.2.2.2.2.2, .int 0]))] H := hP
  have hD : va_D A [(md, .inr (16, [.int th, .ref ha, .long 0])), (ha, .inr (12, [.ref l0, .ref v0, .ref v1, .ref l1, .ref l2, .ref l3, .int 0, .int 0, .int 0])), (l2, .inr (1, [.int 0, .ref G.2.2.2.2.2.2.2, .int 0]))] := hD
  have w_6 : r_7 = zb (zw 0 (-1) p0) := w_6
  exact (sx_iret (v := r_7) () hx hb hr (zb_narr w_6) hlk hP hD hS (zb_0 w_6) dX14_isTeam_17 rfl rfl)
set_option maxHeartbeats 4000000 in
set_option maxRecDepth 100000 in
theorem m_X14_isEntry (l : Launch) (G : sx_G) (sz : Nat) (md : Nat) (ha : Nat) (l0 : Nat) (v0 : Nat) (v1 : Nat) (l1 : Nat) (l2 : Nat) (l3 : Nat) (th : Int32) (p0 : Int32) : sx_Met l yX14_isEntry cX14_isEntry 2 (some .boolean) 1 22 0 0 G [.ref md, .int p0] [(md, .inr (16, [.int th, .ref ha, .long 0])), (ha, .inr (12, [.ref l0, .ref v0, .ref v1, .ref l1, .ref l2, .ref l3, .int 0, .int 0, .int 0])), (l3, .inr (1, [.int 0, .ref G.2.2.2.2.2.2.2, .int 0]))] sz (sx_Qi G (fun (r : Int32) (u : Unit) => r = 0) (fun (u : Unit) => [(md, .inr (16, [.int th, .ref ha, .long 0])), (ha, .inr (12, [.ref l0, .ref v0, .ref v1, .ref l1, .ref l2, .ref l3, .int 0, .int 0, .int 0])), (l3, .inr (1, [.int 0, .ref G.2.2.2.2.2.2.2, .int 0]))])) := by
  refine sx_start (by decide) rfl (fun p e s m below meth c A ls F hr hlk hnm hP hD hS hl => ?_)
  obtain ⟨hx, hb, hml, hown, hts, hK, hE, hA⟩ := id F
  have hown : s.vm.findClass RX14 = some m.cls := hown
  generalize hHe : s.heap = H at hP
  have hS : va_S A s.heap H [] := by rw [← hHe]; exact va_S.rf
  have hl : lv_has ls 2 [(0, .ref md), (1, .int p0)] := hl
  refine lv_iload_n hx hb dX14_isEntry_0 rfl (lv_at hl 1 rfl) ?_
  refine lv_iconst (v := 0) hx hb dX14_isEntry_1 (by decide) ?_
  refine lv_aload_n hx hb dX14_isEntry_2 rfl (lv_at hl 0 rfl) ?_
  refine va_get (D := sx_D G) (ci := 16) (v := .ref ha) (C := RX14) (T := TX14) (N := 3) hx hb hts inX14 hown hK hP 0 rfl rfl 1 (by decide) (hts _ q909) (fun _ h9 => h9) rfl dX14_isEntry_3 ?_
  refine va_getN (D := sx_D G) (ci := 12) (v := .ref l3) (C := RX10) (T := TX10) (N := 9) hx hb hts inX10 hown hK hP 1 rfl rfl 5 (by decide) (hts _ q882) (fun _ h9 => h9) rfl dX14_isEntry_6 ?_
  have hcut : sx_cut [(md, .inr (16, [.int th, .ref ha, .long 0])), (ha, .inr (12, [.ref l0, .ref v0, .ref v1, .ref l1, .ref l2, .ref l3, .int 0, .int 0, .int 0])), (l3, .inr (1, [.int 0, .ref G.2.2.2.2.2.2.2, .int 0]))] [(l3, .inr (1, [.int 0, .ref G.2.2.2.2.2.2.2, .int 0]))] [(md, .inr (16, [.int th, .ref ha, .long 0])), (ha, .inr (12, [.ref l0, .ref v0, .ref v1, .ref l1, .ref l2, .ref l3, .int 0, .int 0, .int 0]))] [2] [0, 1] := ⟨rfl, rfl, by decide, by decide, by decide⟩
  refine sx_ki (sx_runV (As := []) (rest := [.int 0, .int p0]) F (m_Jx4a65c_size_8abf5 l G H.size l3 G.2.2.2.2.2.2.2 0 0) mi_Jx4a65c_size_8abf5 q927 qs_Jx4a65c_size_8abf5 q926 ⟨⟨Nat.le_of_ble_eq_true rfl, Nat.le_of_ble_eq_true rfl⟩, Nat.le_of_ble_eq_true rfl, Nat.le_of_ble_eq_true rfl⟩ hcut hP hD hS 2 1 rfl rfl rfl hl.1 rfl (Nat.le_of_ble_eq_true rfl) dX14_isEntry_9) hcut hP hD hS hA (fun r_3 u_1 H locs w_2 hP hD hS => ?_)
  have hP : va_P (sx_D G) vwCl [(md, .inr (16, [.int th, .ref ha, .long 0])), (ha, .inr (12, [.ref l0, .ref v0, .ref v1, .ref l1, .ref l2, .ref l3, .int 0, .int 0, .int 0])), (l3, .inr (1, [.int 0, .ref G.2.2.2.2.2.2.2, .int 0]))] H := hP
  have hD : va_D A [(md, .inr (16, [.int th, .ref ha, .long 0])), (ha, .inr (12, [.ref l0, .ref v0, .ref v1, .ref l1, .ref l2, .ref l3, .int 0, .int 0, .int 0])), (l3, .inr (1, [.int 0, .ref G.2.2.2.2.2.2.2, .int 0]))] := hD
  have er_3 : r_3 = 0 := w_2
  subst er_3
  refine lv_iconst (v := 1) hx hb dX14_isEntry_12 (by decide) ?_
  refine lv_isub hx hb dX14_isEntry_13 ?_
  refine lv_topi (fun x_4 ex_4 => ?_)
  have ex_4 : x_4 = ((-1) : Int32) := ex_4.trans (by decide)
  subst ex_4
  have hcut : sx_cut [(md, .inr (16, [.int th, .ref ha, .long 0])), (ha, .inr (12, [.ref l0, .ref v0, .ref v1, .ref l1, .ref l2, .ref l3, .int 0, .int 0, .int 0])), (l3, .inr (1, [.int 0, .ref G.2.2.2.2.2.2.2, .int 0]))] [] [(md, .inr (16, [.int th, .ref ha, .long 0])), (ha, .inr (12, [.ref l0, .ref v0, .ref v1, .ref l1, .ref l2, .ref l3, .int 0, .int 0, .int 0])), (l3, .inr (1, [.int 0, .ref G.2.2.2.2.2.2.2, .int 0]))] [] [0, 1, 2] := ⟨rfl, rfl, by decide, by decide, by decide⟩
  refine sx_ki (sx_runS (As := [.int p0, .int 0, .int (-1)]) (rest := []) F (m_X14_is l G H.size p0 0 (-1)) mi_X14_is q931 q930 ⟨⟨Nat.le_of_ble_eq_true rfl, Nat.le_of_ble_eq_true rfl⟩, Nat.le_of_ble_eq_true rfl, Nat.le_of_ble_eq_true rfl⟩ hcut hP hD hS rfl hl.1 rfl (Nat.le_of_ble_eq_true rfl) dX14_isEntry_14) hcut hP hD hS hA (fun r_7 u_5 H locs w_6 hP hD hS => ?_)
  have hP : va_P (sx_D G) vwCl [(md, .inr (16, [.int th, .ref ha, .long 0])), (ha, .inr (12, [.ref l0, .ref v0, .ref v1, .ref l1, .ref l2, .ref l3, .int 0, .int 0, .int 0])), (l3, .inr (1, [.int 0, .ref G.2.2.2.2.2.2.2, .int 0]))] H := hP
  have hD : va_D A [(md, .inr (16, [.int th, .ref ha, .long 0])), (ha, .inr (12, [.ref l0, .ref v0, .ref v1, .ref l1, .ref l2, .ref l3, .int 0, .int 0, .int 0])), (l3, .inr (1, [.int 0, .ref G.2.2.2.2.2.2.2, .int 0]))] := hD
  have w_6 : r_7 = zb (zw 0 (-1) p0) := w_6
  exact (sx_iret (v := r_7) () hx hb hr (zb_narr w_6) hlk hP hD hS (zb_0 w_6) dX14_isEntry_17 rfl rfl)
set_option maxHeartbeats 4000000 in
set_option maxRecDepth 100000 in
theorem m_X14_ofAction (l : Launch) (G : sx_G) (sz : Nat) (md : Nat) (ha : Nat) (l0 : Nat) (v0 : Nat) (v1 : Nat) (l1 : Nat) (l2 : Nat) (l3 : Nat) (p0 : Int32) (p1 : Int32) : sx_Met l yX14_ofAction cX14_ofAction 3 (some .int) 2 43 0 0 G [.ref md, .int p0, .int p1] [(md, .inr (16, [.int 0, .ref ha, .long 0])), (ha, .inr (12, [.ref l0, .ref v0, .ref v1, .ref l1, .ref l2, .ref l3, .int 0, .int 0, .int 0])), (l0, .inr (1, [.int 0, .ref G.2.2.2.2.2.2.2, .int 0]))] sz (sx_Qi G (fun (r : Int32) (u : Unit) => r = 0) (fun (u : Unit) => [(md, .inr (16, [.int 1, .ref ha, .long 0]))])) := by
  refine sx_start (by decide) rfl (fun p e s m below meth c A ls F hr hlk hnm hP hD hS hl => ?_)
  obtain ⟨hx, hb, hml, hown, hts, hK, hE, hA⟩ := id F
  have hown : s.vm.findClass RX14 = some m.cls := hown
  generalize hHe : s.heap = H at hP
  have hS : va_S A s.heap H [] := by rw [← hHe]; exact va_S.rf
  have hl : lv_has ls 3 [(0, .ref md), (1, .int p0), (2, .int p1)] := hl
  refine lv_aload_n hx hb dX14_ofAction_0 rfl (lv_at hl 0 rfl) ?_
  refine lv_iconst (v := 0) hx hb dX14_ofAction_1 (by decide) ?_
  refine va_put (D := sx_D G) (ci := 16) (v := .int 0) (ty := tyX14 0) (C := RX14) (T := TX14) (N := 3) hx hb hts inX14 tyX14 tyX14_ok nmX14 hown hK hP hD hS 0 rfl rfl 0 (by decide) (hts _ q908) (fun _ h9 => h9) rfl (by decide +kernel) rfl rfl (Nat.le_of_ble_eq_true rfl) dX14_ofAction_2 (fun H locs hP hD hS => ?_)
  have hP : va_P (sx_D G) vwCl [(md, .inr (16, [.int 0, .ref ha, .long 0])), (ha, .inr (12, [.ref l0, .ref v0, .ref v1, .ref l1, .ref l2, .ref l3, .int 0, .int 0, .int 0])), (l0, .inr (1, [.int 0, .ref G.2.2.2.2.2.2.2, .int 0]))] H := hP
  have hD : va_D A [(md, .inr (16, [.int 0, .ref ha, .long 0])), (ha, .inr (12, [.ref l0, .ref v0, .ref v1, .ref l1, .ref l2, .ref l3, .int 0, .int 0, .int 0])), (l0, .inr (1, [.int 0, .ref G.2.2.2.2.2.2.2, .int 0]))] := hD
  refine lv_aload_n hx hb dX14_ofAction_5 rfl (lv_at hl 0 rfl) ?_
  refine lv_iload_n hx hb dX14_ofAction_6 rfl (lv_at hl 1 rfl) ?_
  have hcut : sx_cut [(md, .inr (16, [.int 0, .ref ha, .long 0])), (ha, .inr (12, [.ref l0, .ref v0, .ref v1, .ref l1, .ref l2, .ref l3, .int 0, .int 0, .int 0])), (l0, .inr (1, [.int 0, .ref G.2.2.2.2.2.2.2, .int 0]))] [(md, .inr (16, [.int 0, .ref ha, .long 0])), (ha, .inr (12, [.ref l0, .ref v0, .ref v1, .ref l1, .ref l2, .ref l3, .int 0, .int 0, .int 0])), (l0, .inr (1, [.int 0, .ref G.2.2.2.2.2.2.2, .int 0]))] [] [0, 1, 2] [] := ⟨rfl, rfl, by decide, by decide, by decide⟩
  refine sx_ki (sx_runV (As := [.int p0]) (rest := []) F (m_X14_isAction l G H.size md ha l0 v0 v1 l1 l2 l3 0 p0) mi_X14_isAction q1058 qs_X14_isAction q1056 ⟨⟨Nat.le_of_ble_eq_true rfl, Nat.le_of_ble_eq_true rfl⟩, Nat.le_of_ble_eq_true rfl, Nat.le_of_ble_eq_true rfl⟩ hcut hP hD hS 0 16 rfl rfl rfl hl.1 rfl (Nat.le_of_ble_eq_true rfl) dX14_ofAction_7) hcut hP hD hS hA (fun r_3 u_1 H locs w_2 hP hD hS => ?_)
  have hP : va_P (sx_D G) vwCl [(md, .inr (16, [.int 0, .ref ha, .long 0])), (ha, .inr (12, [.ref l0, .ref v0, .ref v1, .ref l1, .ref l2, .ref l3, .int 0, .int 0, .int 0])), (l0, .inr (1, [.int 0, .ref G.2.2.2.2.2.2.2, .int 0]))] H := hP
  have hD : va_D A [(md, .inr (16, [.int 0, .ref ha, .long 0])), (ha, .inr (12, [.ref l0, .ref v0, .ref v1, .ref l1, .ref l2, .ref l3, .int 0, .int 0, .int 0])), (l0, .inr (1, [.int 0, .ref G.2.2.2.2.2.2.2, .int 0]))] := hD
  have er_3 : r_3 = 0 := w_2
  subst er_3
  refine lv_if_ne (tgt := 19) hx hb dX14_ofAction_10 (by decide) (fun c_4 => absurd (by decide) c_4) (fun c_4 => ?_)
  refine lv_aload_n hx hb dX14_ofAction_13 rfl (lv_at hl 0 rfl) ?_
  refine lv_iconst (v := 1) hx hb dX14_ofAction_14 (by decide) ?_
  have hcut : sx_cut [(md, .inr (16, [.int 0, .ref ha, .long 0])), (ha, .inr (12, [.ref l0, .ref v0, .ref v1, .ref l1, .ref l2, .ref l3, .int 0, .int 0, .int 0])), (l0, .inr (1, [.int 0, .ref G.2.2.2.2.2.2.2, .int 0]))] [(md, .inr (16, [.int 0, .ref ha, .long 0]))] [(ha, .inr (12, [.ref l0, .ref v0, .ref v1, .ref l1, .ref l2, .ref l3, .int 0, .int 0, .int 0])), (l0, .inr (1, [.int 0, .ref G.2.2.2.2.2.2.2, .int 0]))] [0] [1, 2] := ⟨rfl, rfl, by decide, by decide, by decide⟩
  refine sx_ki (sx_runV (As := [.int 1]) (rest := []) F (m_X14_refuse l G H.size md ha 0 1 0) mi_X14_refuse q935 qs_X14_refuse q933 ⟨⟨Nat.le_of_ble_eq_true rfl, Nat.le_of_ble_eq_true rfl⟩, Nat.le_of_ble_eq_true rfl, Nat.le_of_ble_eq_true rfl⟩ hcut hP hD hS 0 16 rfl rfl rfl hl.1 rfl (Nat.le_of_ble_eq_true rfl) dX14_ofAction_15) hcut hP hD hS hA (fun r_7 u_5 H locs w_6 hP hD hS => ?_)
  have hP : va_P (sx_D G) vwCl [(ha, .inr (12, [.ref l0, .ref v0, .ref v1, .ref l1, .ref l2, .ref l3, .int 0, .int 0, .int 0])), (l0, .inr (1, [.int 0, .ref G.2.2.2.2.2.2.2, .int 0])), (md, .inr (16, [.int 1, .ref ha, .long 0]))] H := hP
  have hD : va_D A [(ha, .inr (12, [.ref l0, .ref v0, .ref v1, .ref l1, .ref l2, .ref l3, .int 0, .int 0, .int 0])), (l0, .inr (1, [.int 0, .ref G.2.2.2.2.2.2.2, .int 0])), (md, .inr (16, [.int 1, .ref ha, .long 0]))] := hD
  have er_7 : r_7 = 0 := w_6
  subst er_7
  have hP := hP.sub (ws' := [(md, .inr (16, [.int 1, .ref ha, .long 0]))]) [2] rfl
  have hD := hD.sub (ws' := [(md, .inr (16, [.int 1, .ref ha, .long 0]))]) [2] (by decide) rfl
  exact (sx_iret (v := 0) () hx hb hr rfl hlk hP hD hS rfl dX14_ofAction_18 rfl rfl)
set_option maxHeartbeats 4000000 in
set_option maxRecDepth 100000 in
theorem m_X14_ofWorker (l : Launch) (G : sx_G) (sz : Nat) (md : Nat) (ha : Nat) (l0 : Nat) (v0 : Nat) (v1 : Nat) (l1 : Nat) (l2 : Nat) (l3 : Nat) (p0 : Int32) (p1 : Int32) : sx_Met l yX14_ofWorker cX14_ofWorker 3 (some .int) 2 43 0 0 G [.ref md, .int p0, .int p1] [(md, .inr (16, [.int 0, .ref ha, .long 0])), (ha, .inr (12, [.ref l0, .ref v0, .ref v1, .ref l1, .ref l2, .ref l3, .int 0, .int 0, .int 0])), (l1, .inr (1, [.int 0, .ref G.2.2.2.2.2.2.2, .int 0]))] sz (sx_Qi G (fun (r : Int32) (u : Unit) => r = 0) (fun (u : Unit) => [(md, .inr (16, [.int 1, .ref ha, .long 0]))])) := by
  refine sx_start (by decide) rfl (fun p e s m below meth c A ls F hr hlk hnm hP hD hS hl => ?_)
  obtain ⟨hx, hb, hml, hown, hts, hK, hE, hA⟩ := id F
  have hown : s.vm.findClass RX14 = some m.cls := hown
  generalize hHe : s.heap = H at hP
  have hS : va_S A s.heap H [] := by rw [← hHe]; exact va_S.rf
  have hl : lv_has ls 3 [(0, .ref md), (1, .int p0), (2, .int p1)] := hl
  refine lv_aload_n hx hb dX14_ofWorker_0 rfl (lv_at hl 0 rfl) ?_
  refine lv_iconst (v := 0) hx hb dX14_ofWorker_1 (by decide) ?_
  refine va_put (D := sx_D G) (ci := 16) (v := .int 0) (ty := tyX14 0) (C := RX14) (T := TX14) (N := 3) hx hb hts inX14 tyX14 tyX14_ok nmX14 hown hK hP hD hS 0 rfl rfl 0 (by decide) (hts _ q908) (fun _ h9 => h9) rfl (by decide +kernel) rfl rfl (Nat.le_of_ble_eq_true rfl) dX14_ofWorker_2 (fun H locs hP hD hS => ?_)
  have hP : va_P (sx_D G) vwCl [(md, .inr (16, [.int 0, .ref ha, .long 0])), (ha, .inr (12, [.ref l0, .ref v0, .ref v1, .ref l1, .ref l2, .ref l3, .int 0, .int 0, .int 0])), (l1, .inr (1, [.int 0, .ref G.2.2.2.2.2.2.2, .int 0]))] H := hP
  have hD : va_D A [(md, .inr (16, [.int 0, .ref ha, .long 0])), (ha, .inr (12, [.ref l0, .ref v0, .ref v1, .ref l1, .ref l2, .ref l3, .int 0, .int 0, .int 0])), (l1, .inr (1, [.int 0, .ref G.2.2.2.2.2.2.2, .int 0]))] := hD
  refine lv_aload_n hx hb dX14_ofWorker_5 rfl (lv_at hl 0 rfl) ?_
  refine lv_iload_n hx hb dX14_ofWorker_6 rfl (lv_at hl 1 rfl) ?_
  have hcut : sx_cut [(md, .inr (16, [.int 0, .ref ha, .long 0])), (ha, .inr (12, [.ref l0, .ref v0, .ref v1, .ref l1, .ref l2, .ref l3, .int 0, .int 0, .int 0])), (l1, .inr (1, [.int 0, .ref G.2.2.2.2.2.2.2, .int 0]))] [(md, .inr (16, [.int 0, .ref ha, .long 0])), (ha, .inr (12, [.ref l0, .ref v0, .ref v1, .ref l1, .ref l2, .ref l3, .int 0, .int 0, .int 0])), (l1, .inr (1, [.int 0, .ref G.2.2.2.2.2.2.2, .int 0]))] [] [0, 1, 2] [] := ⟨rfl, rfl, by decide, by decide, by decide⟩
  refine sx_ki (sx_runV (As := [.int p0]) (rest := []) F (m_X14_isWorker l G H.size md ha l0 v0 v1 l1 l2 l3 0 p0) mi_X14_isWorker q1218 qs_X14_isWorker q1216 ⟨⟨Nat.le_of_ble_eq_true rfl, Nat.le_of_ble_eq_true rfl⟩, Nat.le_of_ble_eq_true rfl, Nat.le_of_ble_eq_true rfl⟩ hcut hP hD hS 0 16 rfl rfl rfl hl.1 rfl (Nat.le_of_ble_eq_true rfl) dX14_ofWorker_7) hcut hP hD hS hA (fun r_3 u_1 H locs w_2 hP hD hS => ?_)
  have hP : va_P (sx_D G) vwCl [(md, .inr (16, [.int 0, .ref ha, .long 0])), (ha, .inr (12, [.ref l0, .ref v0, .ref v1, .ref l1, .ref l2, .ref l3, .int 0, .int 0, .int 0])), (l1, .inr (1, [.int 0, .ref G.2.2.2.2.2.2.2, .int 0]))] H := hP
  have hD : va_D A [(md, .inr (16, [.int 0, .ref ha, .long 0])), (ha, .inr (12, [.ref l0, .ref v0, .ref v1, .ref l1, .ref l2, .ref l3, .int 0, .int 0, .int 0])), (l1, .inr (1, [.int 0, .ref G.2.2.2.2.2.2.2, .int 0]))] := hD
  have er_3 : r_3 = 0 := w_2
  subst er_3
  refine lv_if_ne (tgt := 19) hx hb dX14_ofWorker_10 (by decide) (fun c_4 => absurd (by decide) c_4) (fun c_4 => ?_)
  refine lv_aload_n hx hb dX14_ofWorker_13 rfl (lv_at hl 0 rfl) ?_
  refine lv_iconst (v := 1) hx hb dX14_ofWorker_14 (by decide) ?_
  have hcut : sx_cut [(md, .inr (16, [.int 0, .ref ha, .long 0])), (ha, .inr (12, [.ref l0, .ref v0, .ref v1, .ref l1, .ref l2, .ref l3, .int 0, .int 0, .int 0])), (l1, .inr (1, [.int 0, .ref G.2.2.2.2.2.2.2, .int 0]))] [(md, .inr (16, [.int 0, .ref ha, .long 0]))] [(ha, .inr (12, [.ref l0, .ref v0, .ref v1, .ref l1, .ref l2, .ref l3, .int 0, .int 0, .int 0])), (l1, .inr (1, [.int 0, .ref G.2.2.2.2.2.2.2, .int 0]))] [0] [1, 2] := ⟨rfl, rfl, by decide, by decide, by decide⟩
  refine sx_ki (sx_runV (As := [.int 1]) (rest := []) F (m_X14_refuse l G H.size md ha 0 1 0) mi_X14_refuse q935 qs_X14_refuse q933 ⟨⟨Nat.le_of_ble_eq_true rfl, Nat.le_of_ble_eq_true rfl⟩, Nat.le_of_ble_eq_true rfl, Nat.le_of_ble_eq_true rfl⟩ hcut hP hD hS 0 16 rfl rfl rfl hl.1 rfl (Nat.le_of_ble_eq_true rfl) dX14_ofWorker_15) hcut hP hD hS hA (fun r_7 u_5 H locs w_6 hP hD hS => ?_)
  have hP : va_P (sx_D G) vwCl [(ha, .inr (12, [.ref l0, .ref v0, .ref v1, .ref l1, .ref l2, .ref l3, .int 0, .int 0, .int 0])), (l1, .inr (1, [.int 0, .ref G.2.2.2.2.2.2.2, .int 0])), (md, .inr (16, [.int 1, .ref ha, .long 0]))] H := hP
  have hD : va_D A [(ha, .inr (12, [.ref l0, .ref v0, .ref v1, .ref l1, .ref l2, .ref l3, .int 0, .int 0, .int 0])), (l1, .inr (1, [.int 0, .ref G.2.2.2.2.2.2.2, .int 0])), (md, .inr (16, [.int 1, .ref ha, .long 0]))] := hD
  have er_7 : r_7 = 0 := w_6
  subst er_7
  have hP := hP.sub (ws' := [(md, .inr (16, [.int 1, .ref ha, .long 0]))]) [2] rfl
  have hD := hD.sub (ws' := [(md, .inr (16, [.int 1, .ref ha, .long 0]))]) [2] (by decide) rfl
  exact (sx_iret (v := 0) () hx hb hr rfl hlk hP hD hS rfl dX14_ofWorker_18 rfl rfl)
set_option maxHeartbeats 4000000 in
set_option maxRecDepth 100000 in
theorem m_X14_mend (l : Launch) (G : sx_G) (sz : Nat) (md : Nat) (ha : Nat) (l0 : Nat) (v0 : Nat) (v1 : Nat) (l1 : Nat) (l2 : Nat) (l3 : Nat) (p0 : Int32) (p1 : Int32) : sx_Met l yX14_mend cX14_mend 5 (some .int) 2 43 0 0 G [.ref md, .int p0, .int p1] [(md, .inr (16, [.int 0, .ref ha, .long 0])), (ha, .inr (12, [.ref l0, .ref v0, .ref v1, .ref l1, .ref l2, .ref l3, .int 0, .int 0, .int 0])), (l1, .inr (1, [.int 0, .ref G.2.2.2.2.2.2.2, .int 0]))] sz (sx_Qi G (fun (r : Int32) (u : Unit) => r = 0) (fun (u : Unit) => [(md, .inr (16, [.int 1, .ref ha, .long 0]))])) := by
  refine sx_start (by decide) rfl (fun p e s m below meth c A ls F hr hlk hnm hP hD hS hl => ?_)
  obtain ⟨hx, hb, hml, hown, hts, hK, hE, hA⟩ := id F
  have hown : s.vm.findClass RX14 = some m.cls := hown
  generalize hHe : s.heap = H at hP
  have hS : va_S A s.heap H [] := by rw [← hHe]; exact va_S.rf
  have hl : lv_has ls 5 [(0, .ref md), (1, .int p0), (2, .int p1)] := hl
  refine lv_aload_n hx hb dX14_mend_0 rfl (lv_at hl 0 rfl) ?_
  refine lv_iconst (v := 0) hx hb dX14_mend_1 (by decide) ?_
  refine va_put (D := sx_D G) (ci := 16) (v := .int 0) (ty := tyX14 0) (C := RX14) (T := TX14) (N := 3) hx hb hts inX14 tyX14 tyX14_ok nmX14 hown hK hP hD hS 0 rfl rfl 0 (by decide) (hts _ q908) (fun _ h9 => h9) rfl (by decide +kernel) rfl rfl (Nat.le_of_ble_eq_true rfl) dX14_mend_2 (fun H locs hP hD hS => ?_)
  have hP : va_P (sx_D G) vwCl [(md, .inr (16, [.int 0, .ref ha, .long 0])), (ha, .inr (12, [.ref l0, .ref v0, .ref v1, .ref l1, .ref l2, .ref l3, .int 0, .int 0, .int 0])), (l1, .inr (1, [.int 0, .ref G.2.2.2.2.2.2.2, .int 0]))] H := hP
  have hD : va_D A [(md, .inr (16, [.int 0, .ref ha, .long 0])), (ha, .inr (12, [.ref l0, .ref v0, .ref v1, .ref l1, .ref l2, .ref l3, .int 0, .int 0, .int 0])), (l1, .inr (1, [.int 0, .ref G.2.2.2.2.2.2.2, .int 0]))] := hD
  refine lv_aload_n hx hb dX14_mend_5 rfl (lv_at hl 0 rfl) ?_
  refine lv_iload_n hx hb dX14_mend_6 rfl (lv_at hl 1 rfl) ?_
  have hcut : sx_cut [(md, .inr (16, [.int 0, .ref ha, .long 0])), (ha, .inr (12, [.ref l0, .ref v0, .ref v1, .ref l1, .ref l2, .ref l3, .int 0, .int 0, .int 0])), (l1, .inr (1, [.int 0, .ref G.2.2.2.2.2.2.2, .int 0]))] [(md, .inr (16, [.int 0, .ref ha, .long 0])), (ha, .inr (12, [.ref l0, .ref v0, .ref v1, .ref l1, .ref l2, .ref l3, .int 0, .int 0, .int 0])), (l1, .inr (1, [.int 0, .ref G.2.2.2.2.2.2.2, .int 0]))] [] [0, 1, 2] [] := ⟨rfl, rfl, by decide, by decide, by decide⟩
  refine sx_ki (sx_runV (As := [.int p0]) (rest := []) F (m_X14_isWorker l G H.size md ha l0 v0 v1 l1 l2 l3 0 p0) mi_X14_isWorker q1218 qs_X14_isWorker q1216 ⟨⟨Nat.le_of_ble_eq_true rfl, Nat.le_of_ble_eq_true rfl⟩, Nat.le_of_ble_eq_true rfl, Nat.le_of_ble_eq_true rfl⟩ hcut hP hD hS 0 16 rfl rfl rfl hl.1 rfl (Nat.le_of_ble_eq_true rfl) dX14_mend_7) hcut hP hD hS hA (fun r_3 u_1 H locs w_2 hP hD hS => ?_)
  have hP : va_P (sx_D G) vwCl [(md, .inr (16, [.int 0, .ref ha, .long 0])), (ha, .inr (12, [.ref l0, .ref v0, .ref v1, .ref l1, .ref l2, .ref l3, .int 0, .int 0, .int 0])), (l1, .inr (1, [.int 0, .ref G.2.2.2.2.2.2.2, .int 0]))] H := hP
  have hD : va_D A [(md, .inr (16, [.int 0, .ref ha, .long 0])), (ha, .inr (12, [.ref l0, .ref v0, .ref v1, .ref l1, .ref l2, .ref l3, .int 0, .int 0, .int 0])), (l1, .inr (1, [.int 0, .ref G.2.2.2.2.2.2.2, .int 0]))] := hD
  have er_3 : r_3 = 0 := w_2
  subst er_3
  refine lv_if_ne (tgt := 19) hx hb dX14_mend_10 (by decide) (fun c_4 => absurd (by decide) c_4) (fun c_4 => ?_)
  refine lv_aload_n hx hb dX14_mend_13 rfl (lv_at hl 0 rfl) ?_
  refine lv_iconst (v := 1) hx hb dX14_mend_14 (by decide) ?_
  have hcut : sx_cut [(md, .inr (16, [.int 0, .ref ha, .long 0])), (ha, .inr (12, [.ref l0, .ref v0, .ref v1, .ref l1, .ref l2, .ref l3, .int 0, .int 0, .int 0])), (l1, .inr (1, [.int 0, .ref G.2.2.2.2.2.2.2, .int 0]))] [(md, .inr (16, [.int 0, .ref ha, .long 0]))] [(ha, .inr (12, [.ref l0, .ref v0, .ref v1, .ref l1, .ref l2, .ref l3, .int 0, .int 0, .int 0])), (l1, .inr (1, [.int 0, .ref G.2.2.2.2.2.2.2, .int 0]))] [0] [1, 2] := ⟨rfl, rfl, by decide, by decide, by decide⟩
  refine sx_ki (sx_runV (As := [.int 1]) (rest := []) F (m_X14_refuse l G H.size md ha 0 1 0) mi_X14_refuse q935 qs_X14_refuse q933 ⟨⟨Nat.le_of_ble_eq_true rfl, Nat.le_of_ble_eq_true rfl⟩, Nat.le_of_ble_eq_true rfl, Nat.le_of_ble_eq_true rfl⟩ hcut hP hD hS 0 16 rfl rfl rfl hl.1 rfl (Nat.le_of_ble_eq_true rfl) dX14_mend_15) hcut hP hD hS hA (fun r_7 u_5 H locs w_6 hP hD hS => ?_)
  have hP : va_P (sx_D G) vwCl [(ha, .inr (12, [.ref l0, .ref v0, .ref v1, .ref l1, .ref l2, .ref l3, .int 0, .int 0, .int 0])), (l1, .inr (1, [.int 0, .ref G.2.2.2.2.2.2.2, .int 0])), (md, .inr (16, [.int 1, .ref ha, .long 0]))] H := hP
  have hD : va_D A [(ha, .inr (12, [.ref l0, .ref v0, .ref v1, .ref l1, .ref l2, .ref l3, .int 0, .int 0, .int 0])), (l1, .inr (1, [.int 0, .ref G.2.2.2.2.2.2.2, .int 0])), (md, .inr (16, [.int 1, .ref ha, .long 0]))] := hD
  have er_7 : r_7 = 0 := w_6
  subst er_7
  have hP := hP.sub (ws' := [(md, .inr (16, [.int 1, .ref ha, .long 0]))]) [2] rfl
  have hD := hD.sub (ws' := [(md, .inr (16, [.int 1, .ref ha, .long 0]))]) [2] (by decide) rfl
  exact (sx_iret (v := 0) () hx hb hr rfl hlk hP hD hS rfl dX14_mend_18 rfl rfl)
set_option maxHeartbeats 4000000 in
set_option maxRecDepth 100000 in
theorem m_X14_quota (l : Launch) (G : sx_G) (sz : Nat) (md : Nat) (ha : Nat) (l0 : Nat) (v0 : Nat) (v1 : Nat) (l1 : Nat) (l2 : Nat) (l3 : Nat) (p0 : Int32) (p1 : Int32) : sx_Met l yX14_quota cX14_quota 3 (some .int) 2 43 0 0 G [.ref md, .int p0, .int p1] [(md, .inr (16, [.int 0, .ref ha, .long 0])), (ha, .inr (12, [.ref l0, .ref v0, .ref v1, .ref l1, .ref l2, .ref l3, .int 0, .int 0, .int 0])), (l2, .inr (1, [.int 0, .ref G.2.2.2.2.2.2.2, .int 0]))] sz (sx_Qi G (fun (r : Int32) (u : Unit) => r = 0) (fun (u : Unit) => [(md, .inr (16, [.int 1, .ref ha, .long 0]))])) := by
  refine sx_start (by decide) rfl (fun p e s m below meth c A ls F hr hlk hnm hP hD hS hl => ?_)
  obtain ⟨hx, hb, hml, hown, hts, hK, hE, hA⟩ := id F
  have hown : s.vm.findClass RX14 = some m.cls := hown
  generalize hHe : s.heap = H at hP
  have hS : va_S A s.heap H [] := by rw [← hHe]; exact va_S.rf
  have hl : lv_has ls 3 [(0, .ref md), (1, .int p0), (2, .int p1)] := hl
  refine lv_aload_n hx hb dX14_quota_0 rfl (lv_at hl 0 rfl) ?_
  refine lv_iconst (v := 0) hx hb dX14_quota_1 (by decide) ?_
  refine va_put (D := sx_D G) (ci := 16) (v := .int 0) (ty := tyX14 0) (C := RX14) (T := TX14) (N := 3) hx hb hts inX14 tyX14 tyX14_ok nmX14 hown hK hP hD hS 0 rfl rfl 0 (by decide) (hts _ q908) (fun _ h9 => h9) rfl (by decide +kernel) rfl rfl (Nat.le_of_ble_eq_true rfl) dX14_quota_2 (fun H locs hP hD hS => ?_)
  have hP : va_P (sx_D G) vwCl [(md, .inr (16, [.int 0, .ref ha, .long 0])), (ha, .inr (12, [.ref l0, .ref v0, .ref v1, .ref l1, .ref l2, .ref l3, .int 0, .int 0, .int 0])), (l2, .inr (1, [.int 0, .ref G.2.2.2.2.2.2.2, .int 0]))] H := hP
  have hD : va_D A [(md, .inr (16, [.int 0, .ref ha, .long 0])), (ha, .inr (12, [.ref l0, .ref v0, .ref v1, .ref l1, .ref l2, .ref l3, .int 0, .int 0, .int 0])), (l2, .inr (1, [.int 0, .ref G.2.2.2.2.2.2.2, .int 0]))] := hD
  refine lv_aload_n hx hb dX14_quota_5 rfl (lv_at hl 0 rfl) ?_
  refine lv_iload_n hx hb dX14_quota_6 rfl (lv_at hl 1 rfl) ?_
  have hcut : sx_cut [(md, .inr (16, [.int 0, .ref ha, .long 0])), (ha, .inr (12, [.ref l0, .ref v0, .ref v1, .ref l1, .ref l2, .ref l3, .int 0, .int 0, .int 0])), (l2, .inr (1, [.int 0, .ref G.2.2.2.2.2.2.2, .int 0]))] [(md, .inr (16, [.int 0, .ref ha, .long 0])), (ha, .inr (12, [.ref l0, .ref v0, .ref v1, .ref l1, .ref l2, .ref l3, .int 0, .int 0, .int 0])), (l2, .inr (1, [.int 0, .ref G.2.2.2.2.2.2.2, .int 0]))] [] [0, 1, 2] [] := ⟨rfl, rfl, by decide, by decide, by decide⟩
  refine sx_ki (sx_runV (As := [.int p0]) (rest := []) F (m_X14_isTeam l G H.size md ha l0 v0 v1 l1 l2 l3 0 p0) mi_X14_isTeam q1257 qs_X14_isTeam q1255 ⟨⟨Nat.le_of_ble_eq_true rfl, Nat.le_of_ble_eq_true rfl⟩, Nat.le_of_ble_eq_true rfl, Nat.le_of_ble_eq_true rfl⟩ hcut hP hD hS 0 16 rfl rfl rfl hl.1 rfl (Nat.le_of_ble_eq_true rfl) dX14_quota_7) hcut hP hD hS hA (fun r_3 u_1 H locs w_2 hP hD hS => ?_)
  have hP : va_P (sx_D G) vwCl [(md, .inr (16, [.int 0, .ref ha, .long 0])), (ha, .inr (12, [.ref l0, .ref v0, .ref v1, .ref l1, .ref l2, .ref l3, .int 0, .int 0, .int 0])), (l2, .inr (1, [.int 0, .ref G.2.2.2.2.2.2.2, .int 0]))] H := hP
  have hD : va_D A [(md, .inr (16, [.int 0, .ref ha, .long 0])), (ha, .inr (12, [.ref l0, .ref v0, .ref v1, .ref l1, .ref l2, .ref l3, .int 0, .int 0, .int 0])), (l2, .inr (1, [.int 0, .ref G.2.2.2.2.2.2.2, .int 0]))] := hD
  have er_3 : r_3 = 0 := w_2
  subst er_3
  refine lv_if_ne (tgt := 19) hx hb dX14_quota_10 (by decide) (fun c_4 => absurd (by decide) c_4) (fun c_4 => ?_)
  refine lv_aload_n hx hb dX14_quota_13 rfl (lv_at hl 0 rfl) ?_
  refine lv_iconst (v := 1) hx hb dX14_quota_14 (by decide) ?_
  have hcut : sx_cut [(md, .inr (16, [.int 0, .ref ha, .long 0])), (ha, .inr (12, [.ref l0, .ref v0, .ref v1, .ref l1, .ref l2, .ref l3, .int 0, .int 0, .int 0])), (l2, .inr (1, [.int 0, .ref G.2.2.2.2.2.2.2, .int 0]))] [(md, .inr (16, [.int 0, .ref ha, .long 0]))] [(ha, .inr (12, [.ref l0, .ref v0, .ref v1, .ref l1, .ref l2, .ref l3, .int 0, .int 0, .int 0])), (l2, .inr (1, [.int 0, .ref G.2.2.2.2.2.2.2, .int 0]))] [0] [1, 2] := ⟨rfl, rfl, by decide, by decide, by decide⟩
  refine sx_ki (sx_runV (As := [.int 1]) (rest := []) F (m_X14_refuse l G H.size md ha 0 1 0) mi_X14_refuse q935 qs_X14_refuse q933 ⟨⟨Nat.le_of_ble_eq_true rfl, Nat.le_of_ble_eq_true rfl⟩, Nat.le_of_ble_eq_true rfl, Nat.le_of_ble_eq_true rfl⟩ hcut hP hD hS 0 16 rfl rfl rfl hl.1 rfl (Nat.le_of_ble_eq_true rfl) dX14_quota_15) hcut hP hD hS hA (fun r_7 u_5 H locs w_6 hP hD hS => ?_)
  have hP : va_P (sx_D G) vwCl [(ha, .inr (12, [.ref l0, .ref v0, .ref v1, .ref l1, .ref l2, .ref l3, .int 0, .int 0, .int 0])), (l2, .inr (1, [.int 0, .ref G.2.2.2.2.2.2.2, .int 0])), (md, .inr (16, [.int 1, .ref ha, .long 0]))] H := hP
  have hD : va_D A [(ha, .inr (12, [.ref l0, .ref v0, .ref v1, .ref l1, .ref l2, .ref l3, .int 0, .int 0, .int 0])), (l2, .inr (1, [.int 0, .ref G.2.2.2.2.2.2.2, .int 0])), (md, .inr (16, [.int 1, .ref ha, .long 0]))] := hD
  have er_7 : r_7 = 0 := w_6
  subst er_7
  have hP := hP.sub (ws' := [(md, .inr (16, [.int 1, .ref ha, .long 0]))]) [2] rfl
  have hD := hD.sub (ws' := [(md, .inr (16, [.int 1, .ref ha, .long 0]))]) [2] (by decide) rfl
  exact (sx_iret (v := 0) () hx hb hr rfl hlk hP hD hS rfl dX14_quota_18 rfl rfl)
set_option maxHeartbeats 4000000 in
set_option maxRecDepth 100000 in
theorem m_X14_ofTeam (l : Launch) (G : sx_G) (sz : Nat) (md : Nat) (ha : Nat) (l0 : Nat) (v0 : Nat) (v1 : Nat) (l1 : Nat) (l2 : Nat) (l3 : Nat) (p0 : Int32) (p1 : Int32) : sx_Met l yX14_ofTeam cX14_ofTeam 3 (some .int) 2 43 0 0 G [.ref md, .int p0, .int p1] [(md, .inr (16, [.int 0, .ref ha, .long 0])), (ha, .inr (12, [.ref l0, .ref v0, .ref v1, .ref l1, .ref l2, .ref l3, .int 0, .int 0, .int 0])), (l2, .inr (1, [.int 0, .ref G.2.2.2.2.2.2.2, .int 0]))] sz (sx_Qi G (fun (r : Int32) (u : Unit) => r = 0) (fun (u : Unit) => [(md, .inr (16, [.int 1, .ref ha, .long 0]))])) := by
  refine sx_start (by decide) rfl (fun p e s m below meth c A ls F hr hlk hnm hP hD hS hl => ?_)
  obtain ⟨hx, hb, hml, hown, hts, hK, hE, hA⟩ := id F
  have hown : s.vm.findClass RX14 = some m.cls := hown
  generalize hHe : s.heap = H at hP
  have hS : va_S A s.heap H [] := by rw [← hHe]; exact va_S.rf
  have hl : lv_has ls 3 [(0, .ref md), (1, .int p0), (2, .int p1)] := hl
  refine lv_aload_n hx hb dX14_ofTeam_0 rfl (lv_at hl 0 rfl) ?_
  refine lv_iconst (v := 0) hx hb dX14_ofTeam_1 (by decide) ?_
  refine va_put (D := sx_D G) (ci := 16) (v := .int 0) (ty := tyX14 0) (C := RX14) (T := TX14) (N := 3) hx hb hts inX14 tyX14 tyX14_ok nmX14 hown hK hP hD hS 0 rfl rfl 0 (by decide) (hts _ q908) (fun _ h9 => h9) rfl (by decide +kernel) rfl rfl (Nat.le_of_ble_eq_true rfl) dX14_ofTeam_2 (fun H locs hP hD hS => ?_)
  have hP : va_P (sx_D G) vwCl [(md, .inr (16, [.int 0, .ref ha, .long 0])), (ha, .inr (12, [.ref l0, .ref v0, .ref v1, .ref l1, .ref l2, .ref l3, .int 0, .int 0, .int 0])), (l2, .inr (1, [.int 0, .ref G.2.2.2.2.2.2.2, .int 0]))] H := hP
  have hD : va_D A [(md, .inr (16, [.int 0, .ref ha, .long 0])), (ha, .inr (12, [.ref l0, .ref v0, .ref v1, .ref l1, .ref l2, .ref l3, .int 0, .int 0, .int 0])), (l2, .inr (1, [.int 0, .ref G.2.2.2.2.2.2.2, .int 0]))] := hD
  refine lv_aload_n hx hb dX14_ofTeam_5 rfl (lv_at hl 0 rfl) ?_
  refine lv_iload_n hx hb dX14_ofTeam_6 rfl (lv_at hl 1 rfl) ?_
  have hcut : sx_cut [(md, .inr (16, [.int 0, .ref ha, .long 0])), (ha, .inr (12, [.ref l0, .ref v0, .ref v1, .ref l1, .ref l2, .ref l3, .int 0, .int 0, .int 0])), (l2, .inr (1, [.int 0, .ref G.2.2.2.2.2.2.2, .int 0]))] [(md, .inr (16, [.int 0, .ref ha, .long 0])), (ha, .inr (12, [.ref l0, .ref v0, .ref v1, .ref l1, .ref l2, .ref l3, .int 0, .int 0, .int 0])), (l2, .inr (1, [.int 0, .ref G.2.2.2.2.2.2.2, .int 0]))] [] [0, 1, 2] [] := ⟨rfl, rfl, by decide, by decide, by decide⟩
  refine sx_ki (sx_runV (As := [.int p0]) (rest := []) F (m_X14_isTeam l G H.size md ha l0 v0 v1 l1 l2 l3 0 p0) mi_X14_isTeam q1257 qs_X14_isTeam q1255 ⟨⟨Nat.le_of_ble_eq_true rfl, Nat.le_of_ble_eq_true rfl⟩, Nat.le_of_ble_eq_true rfl, Nat.le_of_ble_eq_true rfl⟩ hcut hP hD hS 0 16 rfl rfl rfl hl.1 rfl (Nat.le_of_ble_eq_true rfl) dX14_ofTeam_7) hcut hP hD hS hA (fun r_3 u_1 H locs w_2 hP hD hS => ?_)
  have hP : va_P (sx_D G) vwCl [(md, .inr (16, [.int 0, .ref ha, .long 0])), (ha, .inr (12, [.ref l0, .ref v0, .ref v1, .ref l1, .ref l2, .ref l3, .int 0, .int 0, .int 0])), (l2, .inr (1, [.int 0, .ref G.2.2.2.2.2.2.2, .int 0]))] H := hP
  have hD : va_D A [(md, .inr (16, [.int 0, .ref ha, .long 0])), (ha, .inr (12, [.ref l0, .ref v0, .ref v1, .ref l1, .ref l2, .ref l3, .int 0, .int 0, .int 0])), (l2, .inr (1, [.int 0, .ref G.2.2.2.2.2.2.2, .int 0]))] := hD
  have er_3 : r_3 = 0 := w_2
  subst er_3
  refine lv_if_ne (tgt := 19) hx hb dX14_ofTeam_10 (by decide) (fun c_4 => absurd (by decide) c_4) (fun c_4 => ?_)
  refine lv_aload_n hx hb dX14_ofTeam_13 rfl (lv_at hl 0 rfl) ?_
  refine lv_iconst (v := 1) hx hb dX14_ofTeam_14 (by decide) ?_
  have hcut : sx_cut [(md, .inr (16, [.int 0, .ref ha, .long 0])), (ha, .inr (12, [.ref l0, .ref v0, .ref v1, .ref l1, .ref l2, .ref l3, .int 0, .int 0, .int 0])), (l2, .inr (1, [.int 0, .ref G.2.2.2.2.2.2.2, .int 0]))] [(md, .inr (16, [.int 0, .ref ha, .long 0]))] [(ha, .inr (12, [.ref l0, .ref v0, .ref v1, .ref l1, .ref l2, .ref l3, .int 0, .int 0, .int 0])), (l2, .inr (1, [.int 0, .ref G.2.2.2.2.2.2.2, .int 0]))] [0] [1, 2] := ⟨rfl, rfl, by decide, by decide, by decide⟩
  refine sx_ki (sx_runV (As := [.int 1]) (rest := []) F (m_X14_refuse l G H.size md ha 0 1 0) mi_X14_refuse q935 qs_X14_refuse q933 ⟨⟨Nat.le_of_ble_eq_true rfl, Nat.le_of_ble_eq_true rfl⟩, Nat.le_of_ble_eq_true rfl, Nat.le_of_ble_eq_true rfl⟩ hcut hP hD hS 0 16 rfl rfl rfl hl.1 rfl (Nat.le_of_ble_eq_true rfl) dX14_ofTeam_15) hcut hP hD hS hA (fun r_7 u_5 H locs w_6 hP hD hS => ?_)
  have hP : va_P (sx_D G) vwCl [(ha, .inr (12, [.ref l0, .ref v0, .ref v1, .ref l1, .ref l2, .ref l3, .int 0, .int 0, .int 0])), (l2, .inr (1, [.int 0, .ref G.2.2.2.2.2.2.2, .int 0])), (md, .inr (16, [.int 1, .ref ha, .long 0]))] H := hP
  have hD : va_D A [(ha, .inr (12, [.ref l0, .ref v0, .ref v1, .ref l1, .ref l2, .ref l3, .int 0, .int 0, .int 0])), (l2, .inr (1, [.int 0, .ref G.2.2.2.2.2.2.2, .int 0])), (md, .inr (16, [.int 1, .ref ha, .long 0]))] := hD
  have er_7 : r_7 = 0 := w_6
  subst er_7
  have hP := hP.sub (ws' := [(md, .inr (16, [.int 1, .ref ha, .long 0]))]) [2] rfl
  have hD := hD.sub (ws' := [(md, .inr (16, [.int 1, .ref ha, .long 0]))]) [2] (by decide) rfl
  exact (sx_iret (v := 0) () hx hb hr rfl hlk hP hD hS rfl dX14_ofTeam_18 rfl rfl)
set_option maxHeartbeats 4000000 in
set_option maxRecDepth 100000 in
theorem m_X14_build (l : Launch) (G : sx_G) (sz : Nat) (md : Nat) (ha : Nat) (l0 : Nat) (v0 : Nat) (v1 : Nat) (l1 : Nat) (l2 : Nat) (l3 : Nat) (p0 : Int32) (p1 : Int32) : sx_Met l yX14_build cX14_build 5 (some .int) 2 43 0 0 G [.ref md, .int p0, .int p1] [(md, .inr (16, [.int 0, .ref ha, .long 0])), (ha, .inr (12, [.ref l0, .ref v0, .ref v1, .ref l1, .ref l2, .ref l3, .int 0, .int 0, .int 0])), (l2, .inr (1, [.int 0, .ref G.2.2.2.2.2.2.2, .int 0]))] sz (sx_Qi G (fun (r : Int32) (u : Unit) => r = 0) (fun (u : Unit) => [(md, .inr (16, [.int 1, .ref ha, .long 0]))])) := by
  refine sx_start (by decide) rfl (fun p e s m below meth c A ls F hr hlk hnm hP hD hS hl => ?_)
  obtain ⟨hx, hb, hml, hown, hts, hK, hE, hA⟩ := id F
  have hown : s.vm.findClass RX14 = some m.cls := hown
  generalize hHe : s.heap = H at hP
  have hS : va_S A s.heap H [] := by rw [← hHe]; exact va_S.rf
  have hl : lv_has ls 5 [(0, .ref md), (1, .int p0), (2, .int p1)] := hl
  refine lv_aload_n hx hb dX14_build_0 rfl (lv_at hl 0 rfl) ?_
  refine lv_iconst (v := 0) hx hb dX14_build_1 (by decide) ?_
  refine va_put (D := sx_D G) (ci := 16) (v := .int 0) (ty := tyX14 0) (C := RX14) (T := TX14) (N := 3) hx hb hts inX14 tyX14 tyX14_ok nmX14 hown hK hP hD hS 0 rfl rfl 0 (by decide) (hts _ q908) (fun _ h9 => h9) rfl (by decide +kernel) rfl rfl (Nat.le_of_ble_eq_true rfl) dX14_build_2 (fun H locs hP hD hS => ?_)
  have hP : va_P (sx_D G) vwCl [(md, .inr (16, [.int 0, .ref ha, .long 0])), (ha, .inr (12, [.ref l0, .ref v0, .ref v1, .ref l1, .ref l2, .ref l3, .int 0, .int 0, .int 0])), (l2, .inr (1, [.int 0, .ref G.2.2.2.2.2.2.2, .int 0]))] H := hP
  have hD : va_D A [(md, .inr (16, [.int 0, .ref ha, .long 0])), (ha, .inr (12, [.ref l0, .ref v0, .ref v1, .ref l1, .ref l2, .ref l3, .int 0, .int 0, .int 0])), (l2, .inr (1, [.int 0, .ref G.2.2.2.2.2.2.2, .int 0]))] := hD
  refine lv_aload_n hx hb dX14_build_5 rfl (lv_at hl 0 rfl) ?_
  refine lv_iload_n hx hb dX14_build_6 rfl (lv_at hl 1 rfl) ?_
  have hcut : sx_cut [(md, .inr (16, [.int 0, .ref ha, .long 0])), (ha, .inr (12, [.ref l0, .ref v0, .ref v1, .ref l1, .ref l2, .ref l3, .int 0, .int 0, .int 0])), (l2, .inr (1, [.int 0, .ref G.2.2.2.2.2.2.2, .int 0]))] [(md, .inr (16, [.int 0, .ref ha, .long 0])), (ha, .inr (12, [.ref l0, .ref v0, .ref v1, .ref l1, .ref l2, .ref l3, .int 0, .int 0, .int 0])), (l2, .inr (1, [.int 0, .ref G.2.2.2.2.2.2.2, .int 0]))] [] [0, 1, 2] [] := ⟨rfl, rfl, by decide, by decide, by decide⟩
  refine sx_ki (sx_runV (As := [.int p0]) (rest := []) F (m_X14_isTeam l G H.size md ha l0 v0 v1 l1 l2 l3 0 p0) mi_X14_isTeam q1257 qs_X14_isTeam q1255 ⟨⟨Nat.le_of_ble_eq_true rfl, Nat.le_of_ble_eq_true rfl⟩, Nat.le_of_ble_eq_true rfl, Nat.le_of_ble_eq_true rfl⟩ hcut hP hD hS 0 16 rfl rfl rfl hl.1 rfl (Nat.le_of_ble_eq_true rfl) dX14_build_7) hcut hP hD hS hA (fun r_3 u_1 H locs w_2 hP hD hS => ?_)
  have hP : va_P (sx_D G) vwCl [(md, .inr (16, [.int 0, .ref ha, .long 0])), (ha, .inr (12, [.ref l0, .ref v0, .ref v1, .ref l1, .ref l2, .ref l3, .int 0, .int 0, .int 0])), (l2, .inr (1, [.int 0, .ref G.2.2.2.2.2.2.2, .int 0]))] H := hP
  have hD : va_D A [(md, .inr (16, [.int 0, .ref ha, .long 0])), (ha, .inr (12, [.ref l0, .ref v0, .ref v1, .ref l1, .ref l2, .ref l3, .int 0, .int 0, .int 0])), (l2, .inr (1, [.int 0, .ref G.2.2.2.2.2.2.2, .int 0]))] := hD
  have er_3 : r_3 = 0 := w_2
  subst er_3
  refine lv_if_eq (tgt := 21) hx hb dX14_build_10 (by decide) (fun c_4 => ?_) (fun c_4 => absurd (by decide) c_4)
  refine lv_aload_n hx hb dX14_build_21 rfl (lv_at hl 0 rfl) ?_
  refine lv_iconst (v := 1) hx hb dX14_build_22 (by decide) ?_
  have hcut : sx_cut [(md, .inr (16, [.int 0, .ref ha, .long 0])), (ha, .inr (12, [.ref l0, .ref v0, .ref v1, .ref l1, .ref l2, .ref l3, .int 0, .int 0, .int 0])), (l2, .inr (1, [.int 0, .ref G.2.2.2.2.2.2.2, .int 0]))] [(md, .inr (16, [.int 0, .ref ha, .long 0]))] [(ha, .inr (12, [.ref l0, .ref v0, .ref v1, .ref l1, .ref l2, .ref l3, .int 0, .int 0, .int 0])), (l2, .inr (1, [.int 0, .ref G.2.2.2.2.2.2.2, .int 0]))] [0] [1, 2] := ⟨rfl, rfl, by decide, by decide, by decide⟩
  refine sx_ki (sx_runV (As := [.int 1]) (rest := []) F (m_X14_refuse l G H.size md ha 0 1 0) mi_X14_refuse q935 qs_X14_refuse q933 ⟨⟨Nat.le_of_ble_eq_true rfl, Nat.le_of_ble_eq_true rfl⟩, Nat.le_of_ble_eq_true rfl, Nat.le_of_ble_eq_true rfl⟩ hcut hP hD hS 0 16 rfl rfl rfl hl.1 rfl (Nat.le_of_ble_eq_true rfl) dX14_build_23) hcut hP hD hS hA (fun r_7 u_5 H locs w_6 hP hD hS => ?_)
  have hP : va_P (sx_D G) vwCl [(ha, .inr (12, [.ref l0, .ref v0, .ref v1, .ref l1, .ref l2, .ref l3, .int 0, .int 0, .int 0])), (l2, .inr (1, [.int 0, .ref G.2.2.2.2.2.2.2, .int 0])), (md, .inr (16, [.int 1, .ref ha, .long 0]))] H := hP
  have hD : va_D A [(ha, .inr (12, [.ref l0, .ref v0, .ref v1, .ref l1, .ref l2, .ref l3, .int 0, .int 0, .int 0])), (l2, .inr (1, [.int 0, .ref G.2.2.2.2.2.2.2, .int 0])), (md, .inr (16, [.int 1, .ref ha, .long 0]))] := hD
  have er_7 : r_7 = 0 := w_6
  subst er_7
  have hP := hP.sub (ws' := [(md, .inr (16, [.int 1, .ref ha, .long 0]))]) [2] rfl
  have hD := hD.sub (ws' := [(md, .inr (16, [.int 1, .ref ha, .long 0]))]) [2] (by decide) rfl
  exact (sx_iret (v := 0) () hx hb hr rfl hlk hP hD hS rfl dX14_build_26 rfl rfl)
set_option maxHeartbeats 4000000 in
set_option maxRecDepth 100000 in
theorem m_X14_recheck (l : Launch) (G : sx_G) (sz : Nat) (md : Nat) (ha : Nat) (l0 : Nat) (v0 : Nat) (v1 : Nat) (l1 : Nat) (l2 : Nat) (l3 : Nat) (p0 : Int32) : sx_Met l yX14_recheck cX14_recheck 3 (some .int) 2 43 0 0 G [.ref md, .int p0] [(md, .inr (16, [.int 0, .ref ha, .long 0])), (ha, .inr (12, [.ref l0, .ref v0, .ref v1, .ref l1, .ref l2, .ref l3, .int 0, .int 0, .int 0])), (l3, .inr (1, [.int 0, .ref G.2.2.2.2.2.2.2, .int 0]))] sz (sx_Qi G (fun (r : Int32) (u : Unit) => r = 0) (fun (u : Unit) => [(md, .inr (16, [.int 1, .ref ha, .long 0]))])) := by
  refine sx_start (by decide) rfl (fun p e s m below meth c A ls F hr hlk hnm hP hD hS hl => ?_)
  obtain ⟨hx, hb, hml, hown, hts, hK, hE, hA⟩ := id F
  have hown : s.vm.findClass RX14 = some m.cls := hown
  generalize hHe : s.heap = H at hP
  have hS : va_S A s.heap H [] := by rw [← hHe]; exact va_S.rf
  have hl : lv_has ls 3 [(0, .ref md), (1, .int p0)] := hl
  refine lv_aload_n hx hb dX14_recheck_0 rfl (lv_at hl 0 rfl) ?_
  refine lv_iconst (v := 0) hx hb dX14_recheck_1 (by decide) ?_
  refine va_put (D := sx_D G) (ci := 16) (v := .int 0) (ty := tyX14 0) (C := RX14) (T := TX14) (N := 3) hx hb hts inX14 tyX14 tyX14_ok nmX14 hown hK hP hD hS 0 rfl rfl 0 (by decide) (hts _ q908) (fun _ h9 => h9) rfl (by decide +kernel) rfl rfl (Nat.le_of_ble_eq_true rfl) dX14_recheck_2 (fun H locs hP hD hS => ?_)
  have hP : va_P (sx_D G) vwCl [(md, .inr (16, [.int 0, .ref ha, .long 0])), (ha, .inr (12, [.ref l0, .ref v0, .ref v1, .ref l1, .ref l2, .ref l3, .int 0, .int 0, .int 0])), (l3, .inr (1, [.int 0, .ref G.2.2.2.2.2.2.2, .int 0]))] H := hP
  have hD : va_D A [(md, .inr (16, [.int 0, .ref ha, .long 0])), (ha, .inr (12, [.ref l0, .ref v0, .ref v1, .ref l1, .ref l2, .ref l3, .int 0, .int 0, .int 0])), (l3, .inr (1, [.int 0, .ref G.2.2.2.2.2.2.2, .int 0]))] := hD
  refine lv_aload_n hx hb dX14_recheck_5 rfl (lv_at hl 0 rfl) ?_
  refine lv_iload_n hx hb dX14_recheck_6 rfl (lv_at hl 1 rfl) ?_
  have hcut : sx_cut [(md, .inr (16, [.int 0, .ref ha, .long 0])), (ha, .inr (12, [.ref l0, .ref v0, .ref v1, .ref l1, .ref l2, .ref l3, .int 0, .int 0, .int 0])), (l3, .inr (1, [.int 0, .ref G.2.2.2.2.2.2.2, .int 0]))] [(md, .inr (16, [.int 0, .ref ha, .long 0])), (ha, .inr (12, [.ref l0, .ref v0, .ref v1, .ref l1, .ref l2, .ref l3, .int 0, .int 0, .int 0])), (l3, .inr (1, [.int 0, .ref G.2.2.2.2.2.2.2, .int 0]))] [] [0, 1, 2] [] := ⟨rfl, rfl, by decide, by decide, by decide⟩
  refine sx_ki (sx_runV (As := [.int p0]) (rest := []) F (m_X14_isEntry l G H.size md ha l0 v0 v1 l1 l2 l3 0 p0) mi_X14_isEntry q1404 qs_X14_isEntry q1402 ⟨⟨Nat.le_of_ble_eq_true rfl, Nat.le_of_ble_eq_true rfl⟩, Nat.le_of_ble_eq_true rfl, Nat.le_of_ble_eq_true rfl⟩ hcut hP hD hS 0 16 rfl rfl rfl hl.1 rfl (Nat.le_of_ble_eq_true rfl) dX14_recheck_7) hcut hP hD hS hA (fun r_3 u_1 H locs w_2 hP hD hS => ?_)
  have hP : va_P (sx_D G) vwCl [(md, .inr (16, [.int 0, .ref ha, .long 0])), (ha, .inr (12, [.ref l0, .ref v0, .ref v1, .ref l1, .ref l2, .ref l3, .int 0, .int 0, .int 0])), (l3, .inr (1, [.int 0, .ref G.2.2.2.2.2.2.2, .int 0]))] H := hP
  have hD : va_D A [(md, .inr (16, [.int 0, .ref ha, .long 0])), (ha, .inr (12, [.ref l0, .ref v0, .ref v1, .ref l1, .ref l2, .ref l3, .int 0, .int 0, .int 0])), (l3, .inr (1, [.int 0, .ref G.2.2.2.2.2.2.2, .int 0]))] := hD
  have er_3 : r_3 = 0 := w_2
  subst er_3
  refine lv_if_ne (tgt := 19) hx hb dX14_recheck_10 (by decide) (fun c_4 => absurd (by decide) c_4) (fun c_4 => ?_)
  refine lv_aload_n hx hb dX14_recheck_13 rfl (lv_at hl 0 rfl) ?_
  refine lv_iconst (v := 1) hx hb dX14_recheck_14 (by decide) ?_
  have hcut : sx_cut [(md, .inr (16, [.int 0, .ref ha, .long 0])), (ha, .inr (12, [.ref l0, .ref v0, .ref v1, .ref l1, .ref l2, .ref l3, .int 0, .int 0, .int 0])), (l3, .inr (1, [.int 0, .ref G.2.2.2.2.2.2.2, .int 0]))] [(md, .inr (16, [.int 0, .ref ha, .long 0]))] [(ha, .inr (12, [.ref l0, .ref v0, .ref v1, .ref l1, .ref l2, .ref l3, .int 0, .int 0, .int 0])), (l3, .inr (1, [.int 0, .ref G.2.2.2.2.2.2.2, .int 0]))] [0] [1, 2] := ⟨rfl, rfl, by decide, by decide, by decide⟩
  refine sx_ki (sx_runV (As := [.int 1]) (rest := []) F (m_X14_refuse l G H.size md ha 0 1 0) mi_X14_refuse q935 qs_X14_refuse q933 ⟨⟨Nat.le_of_ble_eq_true rfl, Nat.le_of_ble_eq_true rfl⟩, Nat.le_of_ble_eq_true rfl, Nat.le_of_ble_eq_true rfl⟩ hcut hP hD hS 0 16 rfl rfl rfl hl.1 rfl (Nat.le_of_ble_eq_true rfl) dX14_recheck_15) hcut hP hD hS hA (fun r_7 u_5 H locs w_6 hP hD hS => ?_)
  have hP : va_P (sx_D G) vwCl [(ha, .inr (12, [.ref l0, .ref v0, .ref v1, .ref l1, .ref l2, .ref l3, .int 0, .int 0, .int 0])), (l3, .inr (1, [.int 0, .ref G.2.2.2.2.2.2.2, .int 0])), (md, .inr (16, [.int 1, .ref ha, .long 0]))] H := hP
  have hD : va_D A [(ha, .inr (12, [.ref l0, .ref v0, .ref v1, .ref l1, .ref l2, .ref l3, .int 0, .int 0, .int 0])), (l3, .inr (1, [.int 0, .ref G.2.2.2.2.2.2.2, .int 0])), (md, .inr (16, [.int 1, .ref ha, .long 0]))] := hD
  have er_7 : r_7 = 0 := w_6
  subst er_7
  have hP := hP.sub (ws' := [(md, .inr (16, [.int 1, .ref ha, .long 0]))]) [2] rfl
  have hD := hD.sub (ws' := [(md, .inr (16, [.int 1, .ref ha, .long 0]))]) [2] (by decide) rfl
  exact (sx_iret (v := 0) () hx hb hr rfl hlk hP hD hS rfl dX14_recheck_18 rfl rfl)
set_option maxHeartbeats 4000000 in
set_option maxRecDepth 100000 in
theorem m_X14_ofEntry (l : Launch) (G : sx_G) (sz : Nat) (md : Nat) (ha : Nat) (l0 : Nat) (v0 : Nat) (v1 : Nat) (l1 : Nat) (l2 : Nat) (l3 : Nat) (p0 : Int32) (p1 : Int32) : sx_Met l yX14_ofEntry cX14_ofEntry 3 (some .int) 2 43 0 0 G [.ref md, .int p0, .int p1] [(md, .inr (16, [.int 0, .ref ha, .long 0])), (ha, .inr (12, [.ref l0, .ref v0, .ref v1, .ref l1, .ref l2, .ref l3, .int 0, .int 0, .int 0])), (l3, .inr (1, [.int 0, .ref G.2.2.2.2.2.2.2, .int 0]))] sz (sx_Qi G (fun (r : Int32) (u : Unit) => r = 0) (fun (u : Unit) => [(md, .inr (16, [.int 1, .ref ha, .long 0]))])) := by
  refine sx_start (by decide) rfl (fun p e s m below meth c A ls F hr hlk hnm hP hD hS hl => ?_)
  obtain ⟨hx, hb, hml, hown, hts, hK, hE, hA⟩ := id F
  have hown : s.vm.findClass RX14 = some m.cls := hown
  generalize hHe : s.heap = H at hP
  have hS : va_S A s.heap H [] := by rw [← hHe]; exact va_S.rf
  have hl : lv_has ls 3 [(0, .ref md), (1, .int p0), (2, .int p1)] := hl
  refine lv_aload_n hx hb dX14_ofEntry_0 rfl (lv_at hl 0 rfl) ?_
  refine lv_iconst (v := 0) hx hb dX14_ofEntry_1 (by decide) ?_
  refine va_put (D := sx_D G) (ci := 16) (v := .int 0) (ty := tyX14 0) (C := RX14) (T := TX14) (N := 3) hx hb hts inX14 tyX14 tyX14_ok nmX14 hown hK hP hD hS 0 rfl rfl 0 (by decide) (hts _ q908) (fun _ h9 => h9) rfl (by decide +kernel) rfl rfl (Nat.le_of_ble_eq_true rfl) dX14_ofEntry_2 (fun H locs hP hD hS => ?_)
  have hP : va_P (sx_D G) vwCl [(md, .inr (16, [.int 0, .ref ha, .long 0])), (ha, .inr (12, [.ref l0, .ref v0, .ref v1, .ref l1, .ref l2, .ref l3, .int 0, .int 0, .int 0])), (l3, .inr (1, [.int 0, .ref G.2.2.2.2.2.2.2, .int 0]))] H := hP
  have hD : va_D A [(md, .inr (16, [.int 0, .ref ha, .long 0])), (ha, .inr (12, [.ref l0, .ref v0, .ref v1, .ref l1, .ref l2, .ref l3, .int 0, .int 0, .int 0])), (l3, .inr (1, [.int 0, .ref G.2.2.2.2.2.2.2, .int 0]))] := hD
  refine lv_aload_n hx hb dX14_ofEntry_5 rfl (lv_at hl 0 rfl) ?_
  refine lv_iload_n hx hb dX14_ofEntry_6 rfl (lv_at hl 1 rfl) ?_
  have hcut : sx_cut [(md, .inr (16, [.int 0, .ref ha, .long 0])), (ha, .inr (12, [.ref l0, .ref v0, .ref v1, .ref l1, .ref l2, .ref l3, .int 0, .int 0, .int 0])), (l3, .inr (1, [.int 0, .ref G.2.2.2.2.2.2.2, .int 0]))] [(md, .inr (16, [.int 0, .ref ha, .long 0])), (ha, .inr (12, [.ref l0, .ref v0, .ref v1, .ref l1, .ref l2, .ref l3, .int 0, .int 0, .int 0])), (l3, .inr (1, [.int 0, .ref G.2.2.2.2.2.2.2, .int 0]))] [] [0, 1, 2] [] := ⟨rfl, rfl, by decide, by decide, by decide⟩
  refine sx_ki (sx_runV (As := [.int p0]) (rest := []) F (m_X14_isEntry l G H.size md ha l0 v0 v1 l1 l2 l3 0 p0) mi_X14_isEntry q1404 qs_X14_isEntry q1402 ⟨⟨Nat.le_of_ble_eq_true rfl, Nat.le_of_ble_eq_true rfl⟩, Nat.le_of_ble_eq_true rfl, Nat.le_of_ble_eq_true rfl⟩ hcut hP hD hS 0 16 rfl rfl rfl hl.1 rfl (Nat.le_of_ble_eq_true rfl) dX14_ofEntry_7) hcut hP hD hS hA (fun r_3 u_1 H locs w_2 hP hD hS => ?_)
  have hP : va_P (sx_D G) vwCl [(md, .inr (16, [.int 0, .ref ha, .long 0])), (ha, .inr (12, [.ref l0, .ref v0, .ref v1, .ref l1, .ref l2, .ref l3, .int 0, .int 0, .int 0])), (l3, .inr (1, [.int 0, .ref G.2.2.2.2.2.2.2, .int 0]))] H := hP
  have hD : va_D A [(md, .inr (16, [.int 0, .ref ha, .long 0])), (ha, .inr (12, [.ref l0, .ref v0, .ref v1, .ref l1, .ref l2, .ref l3, .int 0, .int 0, .int 0])), (l3, .inr (1, [.int 0, .ref G.2.2.2.2.2.2.2, .int 0]))] := hD
  have er_3 : r_3 = 0 := w_2
  subst er_3
  refine lv_if_ne (tgt := 19) hx hb dX14_ofEntry_10 (by decide) (fun c_4 => absurd (by decide) c_4) (fun c_4 => ?_)
  refine lv_aload_n hx hb dX14_ofEntry_13 rfl (lv_at hl 0 rfl) ?_
  refine lv_iconst (v := 1) hx hb dX14_ofEntry_14 (by decide) ?_
  have hcut : sx_cut [(md, .inr (16, [.int 0, .ref ha, .long 0])), (ha, .inr (12, [.ref l0, .ref v0, .ref v1, .ref l1, .ref l2, .ref l3, .int 0, .int 0, .int 0])), (l3, .inr (1, [.int 0, .ref G.2.2.2.2.2.2.2, .int 0]))] [(md, .inr (16, [.int 0, .ref ha, .long 0]))] [(ha, .inr (12, [.ref l0, .ref v0, .ref v1, .ref l1, .ref l2, .ref l3, .int 0, .int 0, .int 0])), (l3, .inr (1, [.int 0, .ref G.2.2.2.2.2.2.2, .int 0]))] [0] [1, 2] := ⟨rfl, rfl, by decide, by decide, by decide⟩
  refine sx_ki (sx_runV (As := [.int 1]) (rest := []) F (m_X14_refuse l G H.size md ha 0 1 0) mi_X14_refuse q935 qs_X14_refuse q933 ⟨⟨Nat.le_of_ble_eq_true rfl, Nat.le_of_ble_eq_true rfl⟩, Nat.le_of_ble_eq_true rfl, Nat.le_of_ble_eq_true rfl⟩ hcut hP hD hS 0 16 rfl rfl rfl hl.1 rfl (Nat.le_of_ble_eq_true rfl) dX14_ofEntry_15) hcut hP hD hS hA (fun r_7 u_5 H locs w_6 hP hD hS => ?_)
  have hP : va_P (sx_D G) vwCl [(ha, .inr (12, [.ref l0, .ref v0, .ref v1, .ref l1, .ref l2, .ref l3, .int 0, .int 0, .int 0])), (l3, .inr (1, [.int 0, .ref G.2.2.2.2.2.2.2, .int 0])), (md, .inr (16, [.int 1, .ref ha, .long 0]))] H := hP
  have hD : va_D A [(ha, .inr (12, [.ref l0, .ref v0, .ref v1, .ref l1, .ref l2, .ref l3, .int 0, .int 0, .int 0])), (l3, .inr (1, [.int 0, .ref G.2.2.2.2.2.2.2, .int 0])), (md, .inr (16, [.int 1, .ref ha, .long 0]))] := hD
  have er_7 : r_7 = 0 := w_6
  subst er_7
  have hP := hP.sub (ws' := [(md, .inr (16, [.int 1, .ref ha, .long 0]))]) [2] rfl
  have hD := hD.sub (ws' := [(md, .inr (16, [.int 1, .ref ha, .long 0]))]) [2] (by decide) rfl
  exact (sx_iret (v := 0) () hx hb hr rfl hlk hP hD hS rfl dX14_ofEntry_18 rfl rfl)
set_option maxHeartbeats 4000000 in
set_option maxRecDepth 100000 in
theorem m_X14_from (l : Launch) (G : sx_G) (sz : Nat) (md : Nat) (ha : Nat) (l0 : Nat) (v0 : Nat) (v1 : Nat) (l1 : Nat) (l2 : Nat) (l3 : Nat) (p0 : Int32) (p1 : Int32) : sx_Met l yX14_from cX14_from 3 (some .int) 2 43 0 0 G [.ref md, .int p0, .int p1] [(md, .inr (16, [.int 0, .ref ha, .long 0])), (ha, .inr (12, [.ref l0, .ref v0, .ref v1, .ref l1, .ref l2, .ref l3, .int 0, .int 0, .int 0])), (l3, .inr (1, [.int 0, .ref G.2.2.2.2.2.2.2, .int 0]))] sz (sx_Qi G (fun (r : Int32) (u : Unit) => r = 0) (fun (u : Unit) => [(md, .inr (16, [.int 1, .ref ha, .long 0]))])) := by
  refine sx_start (by decide) rfl (fun p e s m below meth c A ls F hr hlk hnm hP hD hS hl => ?_)
  obtain ⟨hx, hb, hml, hown, hts, hK, hE, hA⟩ := id F
  have hown : s.vm.findClass RX14 = some m.cls := hown
  generalize hHe : s.heap = H at hP
  have hS : va_S A s.heap H [] := by rw [← hHe]; exact va_S.rf
  have hl : lv_has ls 3 [(0, .ref md), (1, .int p0), (2, .int p1)] := hl
  refine lv_aload_n hx hb dX14_from_0 rfl (lv_at hl 0 rfl) ?_
  refine lv_iconst (v := 0) hx hb dX14_from_1 (by decide) ?_
  refine va_put (D := sx_D G) (ci := 16) (v := .int 0) (ty := tyX14 0) (C := RX14) (T := TX14) (N := 3) hx hb hts inX14 tyX14 tyX14_ok nmX14 hown hK hP hD hS 0 rfl rfl 0 (by decide) (hts _ q908) (fun _ h9 => h9) rfl (by decide +kernel) rfl rfl (Nat.le_of_ble_eq_true rfl) dX14_from_2 (fun H locs hP hD hS => ?_)
  have hP : va_P (sx_D G) vwCl [(md, .inr (16, [.int 0, .ref ha, .long 0])), (ha, .inr (12, [.ref l0, .ref v0, .ref v1, .ref l1, .ref l2, .ref l3, .int 0, .int 0, .int 0])), (l3, .inr (1, [.int 0, .ref G.2.2.2.2.2.2.2, .int 0]))] H := hP
  have hD : va_D A [(md, .inr (16, [.int 0, .ref ha, .long 0])), (ha, .inr (12, [.ref l0, .ref v0, .ref v1, .ref l1, .ref l2, .ref l3, .int 0, .int 0, .int 0])), (l3, .inr (1, [.int 0, .ref G.2.2.2.2.2.2.2, .int 0]))] := hD
  refine lv_aload_n hx hb dX14_from_5 rfl (lv_at hl 0 rfl) ?_
  refine lv_iload_n hx hb dX14_from_6 rfl (lv_at hl 1 rfl) ?_
  have hcut : sx_cut [(md, .inr (16, [.int 0, .ref ha, .long 0])), (ha, .inr (12, [.ref l0, .ref v0, .ref v1, .ref l1, .ref l2, .ref l3, .int 0, .int 0, .int 0])), (l3, .inr (1, [.int 0, .ref G.2.2.2.2.2.2.2, .int 0]))] [(md, .inr (16, [.int 0, .ref ha, .long 0])), (ha, .inr (12, [.ref l0, .ref v0, .ref v1, .ref l1, .ref l2, .ref l3, .int 0, .int 0, .int 0])), (l3, .inr (1, [.int 0, .ref G.2.2.2.2.2.2.2, .int 0]))] [] [0, 1, 2] [] := ⟨rfl, rfl, by decide, by decide, by decide⟩
  refine sx_ki (sx_runV (As := [.int p0]) (rest := []) F (m_X14_isEntry l G H.size md ha l0 v0 v1 l1 l2 l3 0 p0) mi_X14_isEntry q1404 qs_X14_isEntry q1402 ⟨⟨Nat.le_of_ble_eq_true rfl, Nat.le_of_ble_eq_true rfl⟩, Nat.le_of_ble_eq_true rfl, Nat.le_of_ble_eq_true rfl⟩ hcut hP hD hS 0 16 rfl rfl rfl hl.1 rfl (Nat.le_of_ble_eq_true rfl) dX14_from_7) hcut hP hD hS hA (fun r_3 u_1 H locs w_2 hP hD hS => ?_)
  have hP : va_P (sx_D G) vwCl [(md, .inr (16, [.int 0, .ref ha, .long 0])), (ha, .inr (12, [.ref l0, .ref v0, .ref v1, .ref l1, .ref l2, .ref l3, .int 0, .int 0, .int 0])), (l3, .inr (1, [.int 0, .ref G.2.2.2.2.2.2.2, .int 0]))] H := hP
  have hD : va_D A [(md, .inr (16, [.int 0, .ref ha, .long 0])), (ha, .inr (12, [.ref l0, .ref v0, .ref v1, .ref l1, .ref l2, .ref l3, .int 0, .int 0, .int 0])), (l3, .inr (1, [.int 0, .ref G.2.2.2.2.2.2.2, .int 0]))] := hD
  have er_3 : r_3 = 0 := w_2
  subst er_3
  refine lv_if_eq (tgt := 50) hx hb dX14_from_10 (by decide) (fun c_4 => ?_) (fun c_4 => absurd (by decide) c_4)
  refine lv_aload_n hx hb dX14_from_50 rfl (lv_at hl 0 rfl) ?_
  refine lv_iconst (v := 1) hx hb dX14_from_51 (by decide) ?_
  have hcut : sx_cut [(md, .inr (16, [.int 0, .ref ha, .long 0])), (ha, .inr (12, [.ref l0, .ref v0, .ref v1, .ref l1, .ref l2, .ref l3, .int 0, .int 0, .int 0])), (l3, .inr (1, [.int 0, .ref G.2.2.2.2.2.2.2, .int 0]))] [(md, .inr (16, [.int 0, .ref ha, .long 0]))] [(ha, .inr (12, [.ref l0, .ref v0, .ref v1, .ref l1, .ref l2, .ref l3, .int 0, .int 0, .int 0])), (l3, .inr (1, [.int 0, .ref G.2.2.2.2.2.2.2, .int 0]))] [0] [1, 2] := ⟨rfl, rfl, by decide, by decide, by decide⟩
  refine sx_ki (sx_runV (As := [.int 1]) (rest := []) F (m_X14_refuse l G H.size md ha 0 1 0) mi_X14_refuse q935 qs_X14_refuse q933 ⟨⟨Nat.le_of_ble_eq_true rfl, Nat.le_of_ble_eq_true rfl⟩, Nat.le_of_ble_eq_true rfl, Nat.le_of_ble_eq_true rfl⟩ hcut hP hD hS 0 16 rfl rfl rfl hl.1 rfl (Nat.le_of_ble_eq_true rfl) dX14_from_52) hcut hP hD hS hA (fun r_7 u_5 H locs w_6 hP hD hS => ?_)
  have hP : va_P (sx_D G) vwCl [(ha, .inr (12, [.ref l0, .ref v0, .ref v1, .ref l1, .ref l2, .ref l3, .int 0, .int 0, .int 0])), (l3, .inr (1, [.int 0, .ref G.2.2.2.2.2.2.2, .int 0])), (md, .inr (16, [.int 1, .ref ha, .long 0]))] H := hP
  have hD : va_D A [(ha, .inr (12, [.ref l0, .ref v0, .ref v1, .ref l1, .ref l2, .ref l3, .int 0, .int 0, .int 0])), (l3, .inr (1, [.int 0, .ref G.2.2.2.2.2.2.2, .int 0])), (md, .inr (16, [.int 1, .ref ha, .long 0]))] := hD
  have er_7 : r_7 = 0 := w_6
  subst er_7
  have hP := hP.sub (ws' := [(md, .inr (16, [.int 1, .ref ha, .long 0]))]) [2] rfl
  have hD := hD.sub (ws' := [(md, .inr (16, [.int 1, .ref ha, .long 0]))]) [2] (by decide) rfl
  exact (sx_iret (v := 0) () hx hb hr rfl hlk hP hD hS rfl dX14_from_55 rfl rfl)
set_option maxHeartbeats 4000000 in
set_option maxRecDepth 100000 in
theorem m_X14_wouldRun (l : Launch) (G : sx_G) (sz : Nat) (md : Nat) (ha : Nat) (l0 : Nat) (v0 : Nat) (v1 : Nat) (l1 : Nat) (l2 : Nat) (l3 : Nat) (p0 : Int32) (p1 : Int32) : sx_Met l yX14_wouldRun cX14_wouldRun 3 (some .int) 2 43 0 0 G [.ref md, .int p0, .int p1] [(md, .inr (16, [.int 0, .ref ha, .long 0])), (ha, .inr (12, [.ref l0, .ref v0, .ref v1, .ref l1, .ref l2, .ref l3, .int 0, .int 0, .int 0])), (l2, .inr (1, [.int 0, .ref G.2.2.2.2.2.2.2, .int 0]))] sz (sx_Qi G (fun (r : Int32) (u : Unit) => r = 0) (fun (u : Unit) => [(md, .inr (16, [.int 1, .ref ha, .long 0]))])) := by
  refine sx_start (by decide) rfl (fun p e s m below meth c A ls F hr hlk hnm hP hD hS hl => ?_)
  obtain ⟨hx, hb, hml, hown, hts, hK, hE, hA⟩ := id F
  have hown : s.vm.findClass RX14 = some m.cls := hown
  generalize hHe : s.heap = H at hP
  have hS : va_S A s.heap H [] := by rw [← hHe]; exact va_S.rf
  have hl : lv_has ls 3 [(0, .ref md), (1, .int p0), (2, .int p1)] := hl
  refine lv_aload_n hx hb dX14_wouldRun_0 rfl (lv_at hl 0 rfl) ?_
  refine lv_iconst (v := 0) hx hb dX14_wouldRun_1 (by decide) ?_
  refine va_put (D := sx_D G) (ci := 16) (v := .int 0) (ty := tyX14 0) (C := RX14) (T := TX14) (N := 3) hx hb hts inX14 tyX14 tyX14_ok nmX14 hown hK hP hD hS 0 rfl rfl 0 (by decide) (hts _ q908) (fun _ h9 => h9) rfl (by decide +kernel) rfl rfl (Nat.le_of_ble_eq_true rfl) dX14_wouldRun_2 (fun H locs hP hD hS => ?_)
  have hP : va_P (sx_D G) vwCl [(md, .inr (16, [.int 0, .ref ha, .long 0])), (ha, .inr (12, [.ref l0, .ref v0, .ref v1, .ref l1, .ref l2, .ref l3, .int 0, .int 0, .int 0])), (l2, .inr (1, [.int 0, .ref G.2.2.2.2.2.2.2, .int 0]))] H := hP
  have hD : va_D A [(md, .inr (16, [.int 0, .ref ha, .long 0])), (ha, .inr (12, [.ref l0, .ref v0, .ref v1, .ref l1, .ref l2, .ref l3, .int 0, .int 0, .int 0])), (l2, .inr (1, [.int 0, .ref G.2.2.2.2.2.2.2, .int 0]))] := hD
  refine lv_aload_n hx hb dX14_wouldRun_5 rfl (lv_at hl 0 rfl) ?_
  refine lv_iload_n hx hb dX14_wouldRun_6 rfl (lv_at hl 1 rfl) ?_
  have hcut : sx_cut [(md, .inr (16, [.int 0, .ref ha, .long 0])), (ha, .inr (12, [.ref l0, .ref v0, .ref v1, .ref l1, .ref l2, .ref l3, .int 0, .int 0, .int 0])), (l2, .inr (1, [.int 0, .ref G.2.2.2.2.2.2.2, .int 0]))] [(md, .inr (16, [.int 0, .ref ha, .long 0])), (ha, .inr (12, [.ref l0, .ref v0, .ref v1, .ref l1, .ref l2, .ref l3, .int 0, .int 0, .int 0])), (l2, .inr (1, [.int 0, .ref G.2.2.2.2.2.2.2, .int 0]))] [] [0, 1, 2] [] := ⟨rfl, rfl, by decide, by decide, by decide⟩
  refine sx_ki (sx_runV (As := [.int p0]) (rest := []) F (m_X14_isTeam l G H.size md ha l0 v0 v1 l1 l2 l3 0 p0) mi_X14_isTeam q1257 qs_X14_isTeam q1255 ⟨⟨Nat.le_of_ble_eq_true rfl, Nat.le_of_ble_eq_true rfl⟩, Nat.le_of_ble_eq_true rfl, Nat.le_of_ble_eq_true rfl⟩ hcut hP hD hS 0 16 rfl rfl rfl hl.1 rfl (Nat.le_of_ble_eq_true rfl) dX14_wouldRun_7) hcut hP hD hS hA (fun r_3 u_1 H locs w_2 hP hD hS => ?_)
  have hP : va_P (sx_D G) vwCl [(md, .inr (16, [.int 0, .ref ha, .long 0])), (ha, .inr (12, [.ref l0, .ref v0, .ref v1, .ref l1, .ref l2, .ref l3, .int 0, .int 0, .int 0])), (l2, .inr (1, [.int 0, .ref G.2.2.2.2.2.2.2, .int 0]))] H := hP
  have hD : va_D A [(md, .inr (16, [.int 0, .ref ha, .long 0])), (ha, .inr (12, [.ref l0, .ref v0, .ref v1, .ref l1, .ref l2, .ref l3, .int 0, .int 0, .int 0])), (l2, .inr (1, [.int 0, .ref G.2.2.2.2.2.2.2, .int 0]))] := hD
  have er_3 : r_3 = 0 := w_2
  subst er_3
  refine lv_if_eq (tgt := 30) hx hb dX14_wouldRun_10 (by decide) (fun c_4 => ?_) (fun c_4 => absurd (by decide) c_4)
  refine lv_aload_n hx hb dX14_wouldRun_30 rfl (lv_at hl 0 rfl) ?_
  refine lv_iconst (v := 1) hx hb dX14_wouldRun_31 (by decide) ?_
  have hcut : sx_cut [(md, .inr (16, [.int 0, .ref ha, .long 0])), (ha, .inr (12, [.ref l0, .ref v0, .ref v1, .ref l1, .ref l2, .ref l3, .int 0, .int 0, .int 0])), (l2, .inr (1, [.int 0, .ref G.2.2.2.2.2.2.2, .int 0]))] [(md, .inr (16, [.int 0, .ref ha, .long 0]))] [(ha, .inr (12, [.ref l0, .ref v0, .ref v1, .ref l1, .ref l2, .ref l3, .int 0, .int 0, .int 0])), (l2, .inr (1, [.int 0, .ref G.2.2.2.2.2.2.2, .int 0]))] [0] [1, 2] := ⟨rfl, rfl, by decide, by decide, by decide⟩
  refine sx_ki (sx_runV (As := [.int 1]) (rest := []) F (m_X14_refuse l G H.size md ha 0 1 0) mi_X14_refuse q935 qs_X14_refuse q933 ⟨⟨Nat.le_of_ble_eq_true rfl, Nat.le_of_ble_eq_true rfl⟩, Nat.le_of_ble_eq_true rfl, Nat.le_of_ble_eq_true rfl⟩ hcut hP hD hS 0 16 rfl rfl rfl hl.1 rfl (Nat.le_of_ble_eq_true rfl) dX14_wouldRun_32) hcut hP hD hS hA (fun r_7 u_5 H locs w_6 hP hD hS => ?_)
  have hP : va_P (sx_D G) vwCl [(ha, .inr (12, [.ref l0, .ref v0, .ref v1, .ref l1, .ref l2, .ref l3, .int 0, .int 0, .int 0])), (l2, .inr (1, [.int 0, .ref G.2.2.2.2.2.2.2, .int 0])), (md, .inr (16, [.int 1, .ref ha, .long 0]))] H := hP
  have hD : va_D A [(ha, .inr (12, [.ref l0, .ref v0, .ref v1, .ref l1, .ref l2, .ref l3, .int 0, .int 0, .int 0])), (l2, .inr (1, [.int 0, .ref G.2.2.2.2.2.2.2, .int 0])), (md, .inr (16, [.int 1, .ref ha, .long 0]))] := hD
  have er_7 : r_7 = 0 := w_6
  subst er_7
  have hP := hP.sub (ws' := [(md, .inr (16, [.int 1, .ref ha, .long 0]))]) [2] rfl
  have hD := hD.sub (ws' := [(md, .inr (16, [.int 1, .ref ha, .long 0]))]) [2] (by decide) rfl
  exact (sx_iret (v := 0) () hx hb hr rfl hlk hP hD hS rfl dX14_wouldRun_35 rfl rfl)
set_option maxHeartbeats 4000000 in
set_option maxRecDepth 100000 in
theorem m_X14_wouldBeWrong (l : Launch) (G : sx_G) (sz : Nat) (md : Nat) (ha : Nat) (l0 : Nat) (v0 : Nat) (v1 : Nat) (l1 : Nat) (l2 : Nat) (l3 : Nat) (p0 : Int32) (p1 : Int32) : sx_Met l yX14_wouldBeWrong cX14_wouldBeWrong 4 (some .boolean) 2 43 0 0 G [.ref md, .int p0, .int p1] [(md, .inr (16, [.int 0, .ref ha, .long 0])), (ha, .inr (12, [.ref l0, .ref v0, .ref v1, .ref l1, .ref l2, .ref l3, .int 0, .int 0, .int 0])), (l2, .inr (1, [.int 0, .ref G.2.2.2.2.2.2.2, .int 0]))] sz (sx_Qi G (fun (r : Int32) (u : Unit) => r = 0) (fun (u : Unit) => [(md, .inr (16, [.int 1, .ref ha, .long 0]))])) := by
  refine sx_start (by decide) rfl (fun p e s m below meth c A ls F hr hlk hnm hP hD hS hl => ?_)
  obtain ⟨hx, hb, hml, hown, hts, hK, hE, hA⟩ := id F
  have hown : s.vm.findClass RX14 = some m.cls := hown
  generalize hHe : s.heap = H at hP
  have hS : va_S A s.heap H [] := by rw [← hHe]; exact va_S.rf
  have hl : lv_has ls 4 [(0, .ref md), (1, .int p0), (2, .int p1)] := hl
  refine lv_aload_n hx hb dX14_wouldBeWrong_0 rfl (lv_at hl 0 rfl) ?_
  refine lv_aload_n hx hb dX14_wouldBeWrong_1 rfl (lv_at hl 0 rfl) ?_
  refine lv_iload_n hx hb dX14_wouldBeWrong_2 rfl (lv_at hl 1 rfl) ?_
  have hcut : sx_cut [(md, .inr (16, [.int 0, .ref ha, .long 0])), (ha, .inr (12, [.ref l0, .ref v0, .ref v1, .ref l1, .ref l2, .ref l3, .int 0, .int 0, .int 0])), (l2, .inr (1, [.int 0, .ref G.2.2.2.2.2.2.2, .int 0]))] [(md, .inr (16, [.int 0, .ref ha, .long 0])), (ha, .inr (12, [.ref l0, .ref v0, .ref v1, .ref l1, .ref l2, .ref l3, .int 0, .int 0, .int 0])), (l2, .inr (1, [.int 0, .ref G.2.2.2.2.2.2.2, .int 0]))] [] [0, 1, 2] [] := ⟨rfl, rfl, by decide, by decide, by decide⟩
  refine sx_ki (sx_runV (As := [.int p0]) (rest := [.ref md]) F (m_X14_isTeam l G H.size md ha l0 v0 v1 l1 l2 l3 0 p0) mi_X14_isTeam q1257 qs_X14_isTeam q1255 ⟨⟨Nat.le_of_ble_eq_true rfl, Nat.le_of_ble_eq_true rfl⟩, Nat.le_of_ble_eq_true rfl, Nat.le_of_ble_eq_true rfl⟩ hcut hP hD hS 0 16 rfl rfl rfl hl.1 rfl (Nat.le_of_ble_eq_true rfl) dX14_wouldBeWrong_3) hcut hP hD hS hA (fun r_3 u_1 H locs w_2 hP hD hS => ?_)
  have hP : va_P (sx_D G) vwCl [(md, .inr (16, [.int 0, .ref ha, .long 0])), (ha, .inr (12, [.ref l0, .ref v0, .ref v1, .ref l1, .ref l2, .ref l3, .int 0, .int 0, .int 0])), (l2, .inr (1, [.int 0, .ref G.2.2.2.2.2.2.2, .int 0]))] H := hP
  have hD : va_D A [(md, .inr (16, [.int 0, .ref ha, .long 0])), (ha, .inr (12, [.ref l0, .ref v0, .ref v1, .ref l1, .ref l2, .ref l3, .int 0, .int 0, .int 0])), (l2, .inr (1, [.int 0, .ref G.2.2.2.2.2.2.2, .int 0]))] := hD
  have er_3 : r_3 = 0 := w_2
  subst er_3
  refine lv_if_eq (tgt := 21) hx hb dX14_wouldBeWrong_6 (by decide) (fun c_4 => ?_) (fun c_4 => absurd (by decide) c_4)
  refine lv_iconst (v := 1) hx hb dX14_wouldBeWrong_21 (by decide) ?_
  refine va_put (D := sx_D G) (ci := 16) (v := .int 1) (ty := tyX14 0) (C := RX14) (T := TX14) (N := 3) hx hb hts inX14 tyX14 tyX14_ok nmX14 hown hK hP hD hS 0 rfl rfl 0 (by decide) (hts _ q908) (fun _ h9 => h9) rfl (by decide +kernel) rfl rfl (Nat.le_of_ble_eq_true rfl) dX14_wouldBeWrong_22 (fun H locs hP hD hS => ?_)
  have hP : va_P (sx_D G) vwCl [(md, .inr (16, [.int 1, .ref ha, .long 0])), (ha, .inr (12, [.ref l0, .ref v0, .ref v1, .ref l1, .ref l2, .ref l3, .int 0, .int 0, .int 0])), (l2, .inr (1, [.int 0, .ref G.2.2.2.2.2.2.2, .int 0]))] H := hP
  have hD : va_D A [(md, .inr (16, [.int 1, .ref ha, .long 0])), (ha, .inr (12, [.ref l0, .ref v0, .ref v1, .ref l1, .ref l2, .ref l3, .int 0, .int 0, .int 0])), (l2, .inr (1, [.int 0, .ref G.2.2.2.2.2.2.2, .int 0]))] := hD
  refine lv_aload_n hx hb dX14_wouldBeWrong_25 rfl (lv_at hl 0 rfl) ?_
  refine va_get (D := sx_D G) (ci := 16) (v := .int 1) (C := RX14) (T := TX14) (N := 3) hx hb hts inX14 hown hK hP 0 rfl rfl 0 (by decide) (hts _ q908) (fun _ h9 => h9) rfl dX14_wouldBeWrong_26 ?_
  refine lv_if_le (tgt := 34) hx hb dX14_wouldBeWrong_29 (by decide) (fun c_5 => absurd c_5 (by decide)) (fun c_5 => ?_)
  refine lv_iconst (v := 0) hx hb dX14_wouldBeWrong_32 (by decide) ?_
  have hP := hP.sub (ws' := [(md, .inr (16, [.int 1, .ref ha, .long 0]))]) [0] rfl
  have hD := hD.sub (ws' := [(md, .inr (16, [.int 1, .ref ha, .long 0]))]) [0] (by decide) rfl
  exact (sx_iret (v := 0) () hx hb hr (by decide) hlk hP hD hS rfl dX14_wouldBeWrong_33 rfl rfl)
set_option maxHeartbeats 4000000 in
set_option maxRecDepth 100000 in
theorem m_X14_wouldGo (l : Launch) (G : sx_G) (sz : Nat) (md : Nat) (ha : Nat) (l0 : Nat) (v0 : Nat) (v1 : Nat) (l1 : Nat) (l2 : Nat) (l3 : Nat) (p0 : Int32) (p1 : Int32) : sx_Met l yX14_wouldGo cX14_wouldGo 4 (some .int) 2 43 0 0 G [.ref md, .int p0, .int p1] [(md, .inr (16, [.int 0, .ref ha, .long 0])), (ha, .inr (12, [.ref l0, .ref v0, .ref v1, .ref l1, .ref l2, .ref l3, .int 0, .int 0, .int 0])), (l2, .inr (1, [.int 0, .ref G.2.2.2.2.2.2.2, .int 0]))] sz (sx_Qi G (fun (r : Int32) (u : Unit) => r = 0) (fun (u : Unit) => [(md, .inr (16, [.int 1, .ref ha, .long 0]))])) := by
  refine sx_start (by decide) rfl (fun p e s m below meth c A ls F hr hlk hnm hP hD hS hl => ?_)
  obtain ⟨hx, hb, hml, hown, hts, hK, hE, hA⟩ := id F
  have hown : s.vm.findClass RX14 = some m.cls := hown
  generalize hHe : s.heap = H at hP
  have hS : va_S A s.heap H [] := by rw [← hHe]; exact va_S.rf
  have hl : lv_has ls 4 [(0, .ref md), (1, .int p0), (2, .int p1)] := hl
  refine lv_aload_n hx hb dX14_wouldGo_0 rfl (lv_at hl 0 rfl) ?_
  refine lv_iconst (v := 0) hx hb dX14_wouldGo_1 (by decide) ?_
  refine va_put (D := sx_D G) (ci := 16) (v := .int 0) (ty := tyX14 0) (C := RX14) (T := TX14) (N := 3) hx hb hts inX14 tyX14 tyX14_ok nmX14 hown hK hP hD hS 0 rfl rfl 0 (by decide) (hts _ q908) (fun _ h9 => h9) rfl (by decide +kernel) rfl rfl (Nat.le_of_ble_eq_true rfl) dX14_wouldGo_2 (fun H locs hP hD hS => ?_)
  have hP : va_P (sx_D G) vwCl [(md, .inr (16, [.int 0, .ref ha, .long 0])), (ha, .inr (12, [.ref l0, .ref v0, .ref v1, .ref l1, .ref l2, .ref l3, .int 0, .int 0, .int 0])), (l2, .inr (1, [.int 0, .ref G.2.2.2.2.2.2.2, .int 0]))] H := hP
  have hD : va_D A [(md, .inr (16, [.int 0, .ref ha, .long 0])), (ha, .inr (12, [.ref l0, .ref v0, .ref v1, .ref l1, .ref l2, .ref l3, .int 0, .int 0, .int 0])), (l2, .inr (1, [.int 0, .ref G.2.2.2.2.2.2.2, .int 0]))] := hD
  refine lv_aload_n hx hb dX14_wouldGo_5 rfl (lv_at hl 0 rfl) ?_
  refine lv_iload_n hx hb dX14_wouldGo_6 rfl (lv_at hl 1 rfl) ?_
  have hcut : sx_cut [(md, .inr (16, [.int 0, .ref ha, .long 0])), (ha, .inr (12, [.ref l0, .ref v0, .ref v1, .ref l1, .ref l2, .ref l3, .int 0, .int 0, .int 0])), (l2, .inr (1, [.int 0, .ref G.2.2.2.2.2.2.2, .int 0]))] [(md, .inr (16, [.int 0, .ref ha, .long 0])), (ha, .inr (12, [.ref l0, .ref v0, .ref v1, .ref l1, .ref l2, .ref l3, .int 0, .int 0, .int 0])), (l2, .inr (1, [.int 0, .ref G.2.2.2.2.2.2.2, .int 0]))] [] [0, 1, 2] [] := ⟨rfl, rfl, by decide, by decide, by decide⟩
  refine sx_ki (sx_runV (As := [.int p0]) (rest := []) F (m_X14_isTeam l G H.size md ha l0 v0 v1 l1 l2 l3 0 p0) mi_X14_isTeam q1257 qs_X14_isTeam q1255 ⟨⟨Nat.le_of_ble_eq_true rfl, Nat.le_of_ble_eq_true rfl⟩, Nat.le_of_ble_eq_true rfl, Nat.le_of_ble_eq_true rfl⟩ hcut hP hD hS 0 16 rfl rfl rfl hl.1 rfl (Nat.le_of_ble_eq_true rfl) dX14_wouldGo_7) hcut hP hD hS hA (fun r_3 u_1 H locs w_2 hP hD hS => ?_)
  have hP : va_P (sx_D G) vwCl [(md, .inr (16, [.int 0, .ref ha, .long 0])), (ha, .inr (12, [.ref l0, .ref v0, .ref v1, .ref l1, .ref l2, .ref l3, .int 0, .int 0, .int 0])), (l2, .inr (1, [.int 0, .ref G.2.2.2.2.2.2.2, .int 0]))] H := hP
  have hD : va_D A [(md, .inr (16, [.int 0, .ref ha, .long 0])), (ha, .inr (12, [.ref l0, .ref v0, .ref v1, .ref l1, .ref l2, .ref l3, .int 0, .int 0, .int 0])), (l2, .inr (1, [.int 0, .ref G.2.2.2.2.2.2.2, .int 0]))] := hD
  have er_3 : r_3 = 0 := w_2
  subst er_3
  refine lv_if_ne (tgt := 19) hx hb dX14_wouldGo_10 (by decide) (fun c_4 => absurd (by decide) c_4) (fun c_4 => ?_)
  refine lv_aload_n hx hb dX14_wouldGo_13 rfl (lv_at hl 0 rfl) ?_
  refine lv_iconst (v := 1) hx hb dX14_wouldGo_14 (by decide) ?_
  have hcut : sx_cut [(md, .inr (16, [.int 0, .ref ha, .long 0])), (ha, .inr (12, [.ref l0, .ref v0, .ref v1, .ref l1, .ref l2, .ref l3, .int 0, .int 0, .int 0])), (l2, .inr (1, [.int 0, .ref G.2.2.2.2.2.2.2, .int 0]))] [(md, .inr (16, [.int 0, .ref ha, .long 0]))] [(ha, .inr (12, [.ref l0, .ref v0, .ref v1, .ref l1, .ref l2, .ref l3, .int 0, .int 0, .int 0])), (l2, .inr (1, [.int 0, .ref G.2.2.2.2.2.2.2, .int 0]))] [0] [1, 2] := ⟨rfl, rfl, by decide, by decide, by decide⟩
  refine sx_ki (sx_runV (As := [.int 1]) (rest := []) F (m_X14_refuse l G H.size md ha 0 1 0) mi_X14_refuse q935 qs_X14_refuse q933 ⟨⟨Nat.le_of_ble_eq_true rfl, Nat.le_of_ble_eq_true rfl⟩, Nat.le_of_ble_eq_true rfl, Nat.le_of_ble_eq_true rfl⟩ hcut hP hD hS 0 16 rfl rfl rfl hl.1 rfl (Nat.le_of_ble_eq_true rfl) dX14_wouldGo_15) hcut hP hD hS hA (fun r_7 u_5 H locs w_6 hP hD hS => ?_)
  have hP : va_P (sx_D G) vwCl [(ha, .inr (12, [.ref l0, .ref v0, .ref v1, .ref l1, .ref l2, .ref l3, .int 0, .int 0, .int 0])), (l2, .inr (1, [.int 0, .ref G.2.2.2.2.2.2.2, .int 0])), (md, .inr (16, [.int 1, .ref ha, .long 0]))] H := hP
  have hD : va_D A [(ha, .inr (12, [.ref l0, .ref v0, .ref v1, .ref l1, .ref l2, .ref l3, .int 0, .int 0, .int 0])), (l2, .inr (1, [.int 0, .ref G.2.2.2.2.2.2.2, .int 0])), (md, .inr (16, [.int 1, .ref ha, .long 0]))] := hD
  have er_7 : r_7 = 0 := w_6
  subst er_7
  have hP := hP.sub (ws' := [(md, .inr (16, [.int 1, .ref ha, .long 0]))]) [2] rfl
  have hD := hD.sub (ws' := [(md, .inr (16, [.int 1, .ref ha, .long 0]))]) [2] (by decide) rfl
  exact (sx_iret (v := 0) () hx hb hr rfl hlk hP hD hS rfl dX14_wouldGo_18 rfl rfl)
set_option maxHeartbeats 4000000 in
set_option maxRecDepth 100000 in
theorem m_X14_file (l : Launch) (G : sx_G) (sz : Nat) (md : Nat) (ha : Nat) (l0 : Nat) (v0 : Nat) (v1 : Nat) (l1 : Nat) (l2 : Nat) (l3 : Nat) (p0 : Int32) (p1 : Int32) : sx_Met l yX14_file cX14_file 4 (some .int) 1 22 0 0 G [.ref md, .int p0, .int p1] [(md, .inr (16, [.int 0, .ref ha, .long 0])), (ha, .inr (12, [.ref l0, .ref v0, .ref v1, .ref l1, .ref l2, .ref l3, .int 0, .int 0, .int 0])), (v0, .inl (G.2.1, 8, .inl (fun _ => 0)))] sz (sx_Qi G (fun (r : Int32) (u : Int32) => u = z_file p0 p1 ∧ (u = 0 → r = 0)) (fun (u : Int32) => [(md, .inr (16, [.int u, .ref ha, .long 0]))])) := by
  refine sx_start (by decide) rfl (fun p e s m below meth c A ls F hr hlk hnm hP hD hS hl => ?_)
  obtain ⟨hx, hb, hml, hown, hts, hK, hE, hA⟩ := id F
  have hown : s.vm.findClass RX14 = some m.cls := hown
  generalize hHe : s.heap = H at hP
  have hS : va_S A s.heap H [] := by rw [← hHe]; exact va_S.rf
  have hl : lv_has ls 4 [(0, .ref md), (1, .int p0), (2, .int p1)] := hl
  refine lv_aload_n hx hb dX14_file_0 rfl (lv_at hl 0 rfl) ?_
  refine lv_iconst (v := 0) hx hb dX14_file_1 (by decide) ?_
  refine va_put (D := sx_D G) (ci := 16) (v := .int 0) (ty := tyX14 0) (C := RX14) (T := TX14) (N := 3) hx hb hts inX14 tyX14 tyX14_ok nmX14 hown hK hP hD hS 0 rfl rfl 0 (by decide) (hts _ q908) (fun _ h9 => h9) rfl (by decide +kernel) rfl rfl (Nat.le_of_ble_eq_true rfl) dX14_file_2 (fun H locs hP hD hS => ?_)
  have hP : va_P (sx_D G) vwCl [(md, .inr (16, [.int 0, .ref ha, .long 0])), (ha, .inr (12, [.ref l0, .ref v0, .ref v1, .ref l1, .ref l2, .ref l3, .int 0, .int 0, .int 0])), (v0, .inl (G.2.1, 8, .inl (fun _ => 0)))] H := hP
  have hD : va_D A [(md, .inr (16, [.int 0, .ref ha, .long 0])), (ha, .inr (12, [.ref l0, .ref v0, .ref v1, .ref l1, .ref l2, .ref l3, .int 0, .int 0, .int 0])), (v0, .inl (G.2.1, 8, .inl (fun _ => 0)))] := hD
  refine lv_iload_n hx hb dX14_file_5 rfl (lv_at hl 1 rfl) ?_
  refine lv_iconst (v := 0) hx hb dX14_file_6 (by decide) ?_
  refine lv_bipush (v := 7) hx hb dX14_file_7 (by decide) ?_
  have hcut : sx_cut [(md, .inr (16, [.int 0, .ref ha, .long 0])), (ha, .inr (12, [.ref l0, .ref v0, .ref v1, .ref l1, .ref l2, .ref l3, .int 0, .int 0, .int 0])), (v0, .inl (G.2.1, 8, .inl (fun _ => 0)))] [] [(md, .inr (16, [.int 0, .ref ha, .long 0])), (ha, .inr (12, [.ref l0, .ref v0, .ref v1, .ref l1, .ref l2, .ref l3, .int 0, .int 0, .int 0])), (v0, .inl (G.2.1, 8, .inl (fun _ => 0)))] [] [0, 1, 2] := ⟨rfl, rfl, by decide, by decide, by decide⟩
  refine sx_ki (sx_runS (As := [.int p0, .int 0, .int 7]) (rest := []) F (m_X14_is l G H.size p0 0 7) mi_X14_is q931 q930 ⟨⟨Nat.le_of_ble_eq_true rfl, Nat.le_of_ble_eq_true rfl⟩, Nat.le_of_ble_eq_true rfl, Nat.le_of_ble_eq_true rfl⟩ hcut hP hD hS rfl hl.1 rfl (Nat.le_of_ble_eq_true rfl) dX14_file_9) hcut hP hD hS hA (fun r_3 u_1 H locs w_2 hP hD hS => ?_)
  have hP : va_P (sx_D G) vwCl [(md, .inr (16, [.int 0, .ref ha, .long 0])), (ha, .inr (12, [.ref l0, .ref v0, .ref v1, .ref l1, .ref l2, .ref l3, .int 0, .int 0, .int 0])), (v0, .inl (G.2.1, 8, .inl (fun _ => 0)))] H := hP
  have hD : va_D A [(md, .inr (16, [.int 0, .ref ha, .long 0])), (ha, .inr (12, [.ref l0, .ref v0, .ref v1, .ref l1, .ref l2, .ref l3, .int 0, .int 0, .int 0])), (v0, .inl (G.2.1, 8, .inl (fun _ => 0)))] := hD
  have w_2 : r_3 = zb (zw 0 7 p0) := w_2
  refine lv_if_ne (tgt := 21) hx hb dX14_file_12 (by decide) (fun c_4 => ?_) (fun c_4 => ?_)
  · refine lv_iload_n hx hb dX14_file_21 rfl (lv_at hl 2 rfl) ?_
    refine lv_iconst (v := 0) hx hb dX14_file_22 (by decide) ?_
    refine lv_bipush (v := 99) hx hb dX14_file_23 (by decide) ?_
    have hcut : sx_cut [(md, .inr (16, [.int 0, .ref ha, .long 0])), (ha, .inr (12, [.ref l0, .ref v0, .ref v1, .ref l1, .ref l2, .ref l3, .int 0, .int 0, .int 0])), (v0, .inl (G.2.1, 8, .inl (fun _ => 0)))] [] [(md, .inr (16, [.int 0, .ref ha, .long 0])), (ha, .inr (12, [.ref l0, .ref v0, .ref v1, .ref l1, .ref l2, .ref l3, .int 0, .int 0, .int 0])), (v0, .inl (G.2.1, 8, .inl (fun _ => 0)))] [] [0, 1, 2] := ⟨rfl, rfl, by decide, by decide, by decide⟩
    refine sx_ki (sx_runS (As := [.int p1, .int 0, .int 99]) (rest := []) F (m_X14_is l G H.size p1 0 99) mi_X14_is q931 q930 ⟨⟨Nat.le_of_ble_eq_true rfl, Nat.le_of_ble_eq_true rfl⟩, Nat.le_of_ble_eq_true rfl, Nat.le_of_ble_eq_true rfl⟩ hcut hP hD hS rfl hl.1 rfl (Nat.le_of_ble_eq_true rfl) dX14_file_25) hcut hP hD hS hA (fun r_7 u_5 H locs w_6 hP hD hS => ?_)
    have hP : va_P (sx_D G) vwCl [(md, .inr (16, [.int 0, .ref ha, .long 0])), (ha, .inr (12, [.ref l0, .ref v0, .ref v1, .ref l1, .ref l2, .ref l3, .int 0, .int 0, .int 0])), (v0, .inl (G.2.1, 8, .inl (fun _ => 0)))] H := hP
    have hD : va_D A [(md, .inr (16, [.int 0, .ref ha, .long 0])), (ha, .inr (12, [.ref l0, .ref v0, .ref v1, .ref l1, .ref l2, .ref l3, .int 0, .int 0, .int 0])), (v0, .inl (G.2.1, 8, .inl (fun _ => 0)))] := hD
    have w_6 : r_7 = zb (zw 0 99 p1) := w_6
    refine lv_if_ne (tgt := 37) hx hb dX14_file_28 (by decide) (fun c_8 => ?_) (fun c_8 => ?_)
    · refine lv_aload_n hx hb dX14_file_37 rfl (lv_at hl 0 rfl) ?_
      refine va_get (D := sx_D G) (ci := 16) (v := .ref ha) (C := RX14) (T := TX14) (N := 3) hx hb hts inX14 hown hK hP 0 rfl rfl 1 (by decide) (hts _ q909) (fun _ h9 => h9) rfl dX14_file_38 ?_
      refine va_getN (D := sx_D G) (ci := 12) (v := .ref v0) (C := RX10) (T := TX10) (N := 9) hx hb hts inX10 hown hK hP 1 rfl rfl 1 (by decide) (hts _ q874) (fun _ h9 => h9) rfl dX14_file_41 ?_
      refine lv_iload_n hx hb dX14_file_44 rfl (lv_at hl 1 rfl) ?_
      refine va_iald (D := sx_D G) (tys := sx_tys G) hx hb hK hP 2 0 rfl rfl (zw_vin (zb_t w_2 c_4) (by decide)) dX14_file_45 ?_
      refine lv_topi (fun x_9 ex_9 => ?_)
      have ex_9 : x_9 = (0 : Int32) := ex_9
      subst ex_9
      refine lv_istore_n (lv' := [(3, .int 0), (0, .ref md), (1, .int p0), (2, .int p1)]) hx hb dX14_file_46 rfl hl (by decide) rfl (fun ls hl => ?_)
      refine lv_aload_n hx hb dX14_file_47 rfl (lv_at hl 1 rfl) ?_
      refine va_get (D := sx_D G) (ci := 16) (v := .ref ha) (C := RX14) (T := TX14) (N := 3) hx hb hts inX14 hown hK hP 0 rfl rfl 1 (by decide) (hts _ q909) (fun _ h9 => h9) rfl dX14_file_48 ?_
      refine va_getN (D := sx_D G) (ci := 12) (v := .ref v0) (C := RX10) (T := TX10) (N := 9) hx hb hts inX10 hown hK hP 1 rfl rfl 1 (by decide) (hts _ q874) (fun _ h9 => h9) rfl dX14_file_51 ?_
      refine lv_iload_n hx hb dX14_file_54 rfl (lv_at hl 2 rfl) ?_
      refine lv_iload_n hx hb dX14_file_55 rfl (lv_at hl 3 rfl) ?_
      refine va_iast (D := sx_D G) (tys := sx_tys G) hx hb hK hP hD hS 2 0 rfl rfl (zw_vin (zb_t w_2 c_4) (by decide)) dX14_file_56 (fun H locs hP hD hS => ?_)
      have hP : va_P (sx_D G) vwCl [(md, .inr (16, [.int 0, .ref ha, .long 0])), (ha, .inr (12, [.ref l0, .ref v0, .ref v1, .ref l1, .ref l2, .ref l3, .int 0, .int 0, .int 0])), (v0, .inl (G.2.1, 8, .inl (upd (fun _ => 0) p0.toNatClampNeg p1)))] H := hP
      have hD : va_D A [(md, .inr (16, [.int 0, .ref ha, .long 0])), (ha, .inr (12, [.ref l0, .ref v0, .ref v1, .ref l1, .ref l2, .ref l3, .int 0, .int 0, .int 0])), (v0, .inl (G.2.1, 8, .inl (upd (fun _ => 0) p0.toNatClampNeg p1)))] := hD
      refine lv_iload_n hx hb dX14_file_57 rfl (lv_at hl 0 rfl) ?_
      have hP := hP.sub (ws' := [(md, .inr (16, [.int 0, .ref ha, .long 0]))]) [0] rfl
      have hD := hD.sub (ws' := [(md, .inr (16, [.int 0, .ref ha, .long 0]))]) [0] (by decide) rfl
      exact (sx_iret (v := 0) (0 : Int32) hx hb hr rfl hlk hP hD hS ⟨(z2_0 (zb_t w_2 c_4) (zb_t w_6 c_8)).symm, fun _ => rfl⟩ dX14_file_58 rfl rfl)
    · refine lv_aload_n hx hb dX14_file_31 rfl (lv_at hl 0 rfl) ?_
      refine lv_iconst (v := 2) hx hb dX14_file_32 (by decide) ?_
      have hcut : sx_cut [(md, .inr (16, [.int 0, .ref ha, .long 0])), (ha, .inr (12, [.ref l0, .ref v0, .ref v1, .ref l1, .ref l2, .ref l3, .int 0, .int 0, .int 0])), (v0, .inl (G.2.1, 8, .inl (fun _ => 0)))] [(md, .inr (16, [.int 0, .ref ha, .long 0]))] [(ha, .inr (12, [.ref l0, .ref v0, .ref v1, .ref l1, .ref l2, .ref l3, .int 0, .int 0, .int 0])), (v0, .inl (G.2.1, 8, .inl (fun _ => 0)))] [0] [1, 2] := ⟨rfl, rfl, by decide, by decide, by decide⟩
      refine sx_ki (sx_runV (As := [.int 2]) (rest := []) F (m_X14_refuse l G H.size md ha 0 2 0) mi_X14_refuse q935 qs_X14_refuse q933 ⟨⟨Nat.le_of_ble_eq_true rfl, Nat.le_of_ble_eq_true rfl⟩, Nat.le_of_ble_eq_true rfl, Nat.le_of_ble_eq_true rfl⟩ hcut hP hD hS 0 16 rfl rfl rfl hl.1 rfl (Nat.le_of_ble_eq_true rfl) dX14_file_33) hcut hP hD hS hA (fun r_12 u_10 H locs w_11 hP hD hS => ?_)
      have hP : va_P (sx_D G) vwCl [(ha, .inr (12, [.ref l0, .ref v0, .ref v1, .ref l1, .ref l2, .ref l3, .int 0, .int 0, .int 0])), (v0, .inl (G.2.1, 8, .inl (fun _ => 0))), (md, .inr (16, [.int 2, .ref ha, .long 0]))] H := hP
      have hD : va_D A [(ha, .inr (12, [.ref l0, .ref v0, .ref v1, .ref l1, .ref l2, .ref l3, .int 0, .int 0, .int 0])), (v0, .inl (G.2.1, 8, .inl (fun _ => 0))), (md, .inr (16, [.int 2, .ref ha, .long 0]))] := hD
      have er_12 : r_12 = 0 := w_11
      subst er_12
      have hP := hP.sub (ws' := [(md, .inr (16, [.int 2, .ref ha, .long 0]))]) [2] rfl
      have hD := hD.sub (ws' := [(md, .inr (16, [.int 2, .ref ha, .long 0]))]) [2] (by decide) rfl
      exact (sx_iret (v := 0) (2 : Int32) hx hb hr rfl hlk hP hD hS ⟨(z2_2 (zb_t w_2 c_4) (zb_f w_6 c_8)).symm, fun _ => rfl⟩ dX14_file_36 rfl rfl)
  · refine lv_aload_n hx hb dX14_file_15 rfl (lv_at hl 0 rfl) ?_
    refine lv_iconst (v := 1) hx hb dX14_file_16 (by decide) ?_
    have hcut : sx_cut [(md, .inr (16, [.int 0, .ref ha, .long 0])), (ha, .inr (12, [.ref l0, .ref v0, .ref v1, .ref l1, .ref l2, .ref l3, .int 0, .int 0, .int 0])), (v0, .inl (G.2.1, 8, .inl (fun _ => 0)))] [(md, .inr (16, [.int 0, .ref ha, .long 0]))] [(ha, .inr (12, [.ref l0, .ref v0, .ref v1, .ref l1, .ref l2, .ref l3, .int 0, .int 0, .int 0])), (v0, .inl (G.2.1, 8, .inl (fun _ => 0)))] [0] [1, 2] := ⟨rfl, rfl, by decide, by decide, by decide⟩
    refine sx_ki (sx_runV (As := [.int 1]) (rest := []) F (m_X14_refuse l G H.size md ha 0 1 0) mi_X14_refuse q935 qs_X14_refuse q933 ⟨⟨Nat.le_of_ble_eq_true rfl, Nat.le_of_ble_eq_true rfl⟩, Nat.le_of_ble_eq_true rfl, Nat.le_of_ble_eq_true rfl⟩ hcut hP hD hS 0 16 rfl rfl rfl hl.1 rfl (Nat.le_of_ble_eq_true rfl) dX14_file_17) hcut hP hD hS hA (fun r_15 u_13 H locs w_14 hP hD hS => ?_)
    have hP : va_P (sx_D G) vwCl [(ha, .inr (12, [.ref l0, .ref v0, .ref v1, .ref l1, .ref l2, .ref l3, .int 0, .int 0, .int 0])), (v0, .inl (G.2.1, 8, .inl (fun _ => 0))), (md, .inr (16, [.int 1, .ref ha, .long 0]))] H := hP
    have hD : va_D A [(ha, .inr (12, [.ref l0, .ref v0, .ref v1, .ref l1, .ref l2, .ref l3, .int 0, .int 0, .int 0])), (v0, .inl (G.2.1, 8, .inl (fun _ => 0))), (md, .inr (16, [.int 1, .ref ha, .long 0]))] := hD
    have er_15 : r_15 = 0 := w_14
    subst er_15
    have hP := hP.sub (ws' := [(md, .inr (16, [.int 1, .ref ha, .long 0]))]) [2] rfl
    have hD := hD.sub (ws' := [(md, .inr (16, [.int 1, .ref ha, .long 0]))]) [2] (by decide) rfl
    exact (sx_iret (v := 0) (1 : Int32) hx hb hr rfl hlk hP hD hS ⟨(z2_1 (zb_f w_2 c_4)).symm, fun _ => rfl⟩ dX14_file_20 rfl rfl)
set_option maxHeartbeats 4000000 in
set_option maxRecDepth 100000 in
theorem m_X14_set (l : Launch) (G : sx_G) (sz : Nat) (md : Nat) (ha : Nat) (l0 : Nat) (v0 : Nat) (v1 : Nat) (l1 : Nat) (l2 : Nat) (l3 : Nat) (p0 : Int32) (p1 : Int32) : sx_Met l yX14_set cX14_set 4 (some .int) 1 22 0 0 G [.ref md, .int p0, .int p1] [(md, .inr (16, [.int 0, .ref ha, .long 0])), (ha, .inr (12, [.ref l0, .ref v0, .ref v1, .ref l1, .ref l2, .ref l3, .int 0, .int 0, .int 0])), (v1, .inl (G.2.1, 6, .inl (fun _ => 0)))] sz (sx_Qi G (fun (r : Int32) (u : Int32) => u = z_set p0 p1 ∧ (u = 0 → r = 0)) (fun (u : Int32) => [(md, .inr (16, [.int u, .ref ha, .long 0]))])) := by
  refine sx_start (by decide) rfl (fun p e s m below meth c A ls F hr hlk hnm hP hD hS hl => ?_)
  obtain ⟨hx, hb, hml, hown, hts, hK, hE, hA⟩ := id F
  have hown : s.vm.findClass RX14 = some m.cls := hown
  generalize hHe : s.heap = H at hP
  have hS : va_S A s.heap H [] := by rw [← hHe]; exact va_S.rf
  have hl : lv_has ls 4 [(0, .ref md), (1, .int p0), (2, .int p1)] := hl
  refine lv_aload_n hx hb dX14_set_0 rfl (lv_at hl 0 rfl) ?_
  refine lv_iconst (v := 0) hx hb dX14_set_1 (by decide) ?_
  refine va_put (D := sx_D G) (ci := 16) (v := .int 0) (ty := tyX14 0) (C := RX14) (T := TX14) (N := 3) hx hb hts inX14 tyX14 tyX14_ok nmX14 hown hK hP hD hS 0 rfl rfl 0 (by decide) (hts _ q908) (fun _ h9 => h9) rfl (by decide +kernel) rfl rfl (Nat.le_of_ble_eq_true rfl) dX14_set_2 (fun H locs hP hD hS => ?_)
  have hP : va_P (sx_D G) vwCl [(md, .inr (16, [.int 0, .ref ha, .long 0])), (ha, .inr (12, [.ref l0, .ref v0, .ref v1, .ref l1, .ref l2, .ref l3, .int 0, .int 0, .int 0])), (v1, .inl (G.2.1, 6, .inl (fun _ => 0)))] H := hP
  have hD : va_D A [(md, .inr (16, [.int 0, .ref ha, .long 0])), (ha, .inr (12, [.ref l0, .ref v0, .ref v1, .ref l1, .ref l2, .ref l3, .int 0, .int 0, .int 0])), (v1, .inl (G.2.1, 6, .inl (fun _ => 0)))] := hD
  refine lv_iload_n hx hb dX14_set_5 rfl (lv_at hl 1 rfl) ?_
  refine lv_iconst (v := 0) hx hb dX14_set_6 (by decide) ?_
  refine lv_iconst (v := 5) hx hb dX14_set_7 (by decide) ?_
  have hcut : sx_cut [(md, .inr (16, [.int 0, .ref ha, .long 0])), (ha, .inr (12, [.ref l0, .ref v0, .ref v1, .ref l1, .ref l2, .ref l3, .int 0, .int 0, .int 0])), (v1, .inl (G.2.1, 6, .inl (fun _ => 0)))] [] [(md, .inr (16, [.int 0, .ref ha, .long 0])), (ha, .inr (12, [.ref l0, .ref v0, .ref v1, .ref l1, .ref l2, .ref l3, .int 0, .int 0, .int 0])), (v1, .inl (G.2.1, 6, .inl (fun _ => 0)))] [] [0, 1, 2] := ⟨rfl, rfl, by decide, by decide, by decide⟩
  refine sx_ki (sx_runS (As := [.int p0, .int 0, .int 5]) (rest := []) F (m_X14_is l G H.size p0 0 5) mi_X14_is q931 q930 ⟨⟨Nat.le_of_ble_eq_true rfl, Nat.le_of_ble_eq_true rfl⟩, Nat.le_of_ble_eq_true rfl, Nat.le_of_ble_eq_true rfl⟩ hcut hP hD hS rfl hl.1 rfl (Nat.le_of_ble_eq_true rfl) dX14_set_8) hcut hP hD hS hA (fun r_3 u_1 H locs w_2 hP hD hS => ?_)
  have hP : va_P (sx_D G) vwCl [(md, .inr (16, [.int 0, .ref ha, .long 0])), (ha, .inr (12, [.ref l0, .ref v0, .ref v1, .ref l1, .ref l2, .ref l3, .int 0, .int 0, .int 0])), (v1, .inl (G.2.1, 6, .inl (fun _ => 0)))] H := hP
  have hD : va_D A [(md, .inr (16, [.int 0, .ref ha, .long 0])), (ha, .inr (12, [.ref l0, .ref v0, .ref v1, .ref l1, .ref l2, .ref l3, .int 0, .int 0, .int 0])), (v1, .inl (G.2.1, 6, .inl (fun _ => 0)))] := hD
  have w_2 : r_3 = zb (zw 0 5 p0) := w_2
  refine lv_if_ne (tgt := 20) hx hb dX14_set_11 (by decide) (fun c_4 => ?_) (fun c_4 => ?_)
  · refine lv_iload_n hx hb dX14_set_20 rfl (lv_at hl 2 rfl) ?_
    refine lv_iconst (v := 0) hx hb dX14_set_21 (by decide) ?_
    refine lv_bipush (v := 9) hx hb dX14_set_22 (by decide) ?_
    have hcut : sx_cut [(md, .inr (16, [.int 0, .ref ha, .long 0])), (ha, .inr (12, [.ref l0, .ref v0, .ref v1, .ref l1, .ref l2, .ref l3, .int 0, .int 0, .int 0])), (v1, .inl (G.2.1, 6, .inl (fun _ => 0)))] [] [(md, .inr (16, [.int 0, .ref ha, .long 0])), (ha, .inr (12, [.ref l0, .ref v0, .ref v1, .ref l1, .ref l2, .ref l3, .int 0, .int 0, .int 0])), (v1, .inl (G.2.1, 6, .inl (fun _ => 0)))] [] [0, 1, 2] := ⟨rfl, rfl, by decide, by decide, by decide⟩
    refine sx_ki (sx_runS (As := [.int p1, .int 0, .int 9]) (rest := []) F (m_X14_is l G H.size p1 0 9) mi_X14_is q931 q930 ⟨⟨Nat.le_of_ble_eq_true rfl, Nat.le_of_ble_eq_true rfl⟩, Nat.le_of_ble_eq_true rfl, Nat.le_of_ble_eq_true rfl⟩ hcut hP hD hS rfl hl.1 rfl (Nat.le_of_ble_eq_true rfl) dX14_set_24) hcut hP hD hS hA (fun r_7 u_5 H locs w_6 hP hD hS => ?_)
    have hP : va_P (sx_D G) vwCl [(md, .inr (16, [.int 0, .ref ha, .long 0])), (ha, .inr (12, [.ref l0, .ref v0, .ref v1, .ref l1, .ref l2, .ref l3, .int 0, .int 0, .int 0])), (v1, .inl (G.2.1, 6, .inl (fun _ => 0)))] H := hP
    have hD : va_D A [(md, .inr (16, [.int 0, .ref ha, .long 0])), (ha, .inr (12, [.ref l0, .ref v0, .ref v1, .ref l1, .ref l2, .ref l3, .int 0, .int 0, .int 0])), (v1, .inl (G.2.1, 6, .inl (fun _ => 0)))] := hD
    have w_6 : r_7 = zb (zw 0 9 p1) := w_6
    refine lv_if_ne (tgt := 36) hx hb dX14_set_27 (by decide) (fun c_8 => ?_) (fun c_8 => ?_)
    · refine lv_aload_n hx hb dX14_set_36 rfl (lv_at hl 0 rfl) ?_
      refine va_get (D := sx_D G) (ci := 16) (v := .ref ha) (C := RX14) (T := TX14) (N := 3) hx hb hts inX14 hown hK hP 0 rfl rfl 1 (by decide) (hts _ q909) (fun _ h9 => h9) rfl dX14_set_37 ?_
      refine va_getN (D := sx_D G) (ci := 12) (v := .ref v1) (C := RX10) (T := TX10) (N := 9) hx hb hts inX10 hown hK hP 1 rfl rfl 2 (by decide) (hts _ q876) (fun _ h9 => h9) rfl dX14_set_40 ?_
      refine lv_iload_n hx hb dX14_set_43 rfl (lv_at hl 1 rfl) ?_
      refine va_iald (D := sx_D G) (tys := sx_tys G) hx hb hK hP 2 0 rfl rfl (zw_vin (zb_t w_2 c_4) (by decide)) dX14_set_44 ?_
      refine lv_topi (fun x_9 ex_9 => ?_)
      have ex_9 : x_9 = (0 : Int32) := ex_9
      subst ex_9
      refine lv_istore_n (lv' := [(3, .int 0), (0, .ref md), (1, .int p0), (2, .int p1)]) hx hb dX14_set_45 rfl hl (by decide) rfl (fun ls hl => ?_)
      refine lv_aload_n hx hb dX14_set_46 rfl (lv_at hl 1 rfl) ?_
      refine va_get (D := sx_D G) (ci := 16) (v := .ref ha) (C := RX14) (T := TX14) (N := 3) hx hb hts inX14 hown hK hP 0 rfl rfl 1 (by decide) (hts _ q909) (fun _ h9 => h9) rfl dX14_set_47 ?_
      refine va_getN (D := sx_D G) (ci := 12) (v := .ref v1) (C := RX10) (T := TX10) (N := 9) hx hb hts inX10 hown hK hP 1 rfl rfl 2 (by decide) (hts _ q876) (fun _ h9 => h9) rfl dX14_set_50 ?_
      refine lv_iload_n hx hb dX14_set_53 rfl (lv_at hl 2 rfl) ?_
      refine lv_iload_n hx hb dX14_set_54 rfl (lv_at hl 3 rfl) ?_
      refine va_iast (D := sx_D G) (tys := sx_tys G) hx hb hK hP hD hS 2 0 rfl rfl (zw_vin (zb_t w_2 c_4) (by decide)) dX14_set_55 (fun H locs hP hD hS => ?_)
      have hP : va_P (sx_D G) vwCl [(md, .inr (16, [.int 0, .ref ha, .long 0])), (ha, .inr (12, [.ref l0, .ref v0, .ref v1, .ref l1, .ref l2, .ref l3, .int 0, .int 0, .int 0])), (v1, .inl (G.2.1, 6, .inl (upd (fun _ => 0) p0.toNatClampNeg p1)))] H := hP
      have hD : va_D A [(md, .inr (16, [.int 0, .ref ha, .long 0])), (ha, .inr (12, [.ref l0, .ref v0, .ref v1, .ref l1, .ref l2, .ref l3, .int 0, .int 0, .int 0])), (v1, .inl (G.2.1, 6, .inl (upd (fun _ => 0) p0.toNatClampNeg p1)))] := hD
      refine lv_iload_n hx hb dX14_set_56 rfl (lv_at hl 0 rfl) ?_
      have hP := hP.sub (ws' := [(md, .inr (16, [.int 0, .ref ha, .long 0]))]) [0] rfl
      have hD := hD.sub (ws' := [(md, .inr (16, [.int 0, .ref ha, .long 0]))]) [0] (by decide) rfl
      exact (sx_iret (v := 0) (0 : Int32) hx hb hr rfl hlk hP hD hS ⟨(z2_0 (zb_t w_2 c_4) (zb_t w_6 c_8)).symm, fun _ => rfl⟩ dX14_set_57 rfl rfl)
    · refine lv_aload_n hx hb dX14_set_30 rfl (lv_at hl 0 rfl) ?_
      refine lv_iconst (v := 2) hx hb dX14_set_31 (by decide) ?_
      have hcut : sx_cut [(md, .inr (16, [.int 0, .ref ha, .long 0])), (ha, .inr (12, [.ref l0, .ref v0, .ref v1, .ref l1, .ref l2, .ref l3, .int 0, .int 0, .int 0])), (v1, .inl (G.2.1, 6, .inl (fun _ => 0)))] [(md, .inr (16, [.int 0, .ref ha, .long 0]))] [(ha, .inr (12, [.ref l0, .ref v0, .ref v1, .ref l1, .ref l2, .ref l3, .int 0, .int 0, .int 0])), (v1, .inl (G.2.1, 6, .inl (fun _ => 0)))] [0] [1, 2] := ⟨rfl, rfl, by decide, by decide, by decide⟩
      refine sx_ki (sx_runV (As := [.int 2]) (rest := []) F (m_X14_refuse l G H.size md ha 0 2 0) mi_X14_refuse q935 qs_X14_refuse q933 ⟨⟨Nat.le_of_ble_eq_true rfl, Nat.le_of_ble_eq_true rfl⟩, Nat.le_of_ble_eq_true rfl, Nat.le_of_ble_eq_true rfl⟩ hcut hP hD hS 0 16 rfl rfl rfl hl.1 rfl (Nat.le_of_ble_eq_true rfl) dX14_set_32) hcut hP hD hS hA (fun r_12 u_10 H locs w_11 hP hD hS => ?_)
      have hP : va_P (sx_D G) vwCl [(ha, .inr (12, [.ref l0, .ref v0, .ref v1, .ref l1, .ref l2, .ref l3, .int 0, .int 0, .int 0])), (v1, .inl (G.2.1, 6, .inl (fun _ => 0))), (md, .inr (16, [.int 2, .ref ha, .long 0]))] H := hP
      have hD : va_D A [(ha, .inr (12, [.ref l0, .ref v0, .ref v1, .ref l1, .ref l2, .ref l3, .int 0, .int 0, .int 0])), (v1, .inl (G.2.1, 6, .inl (fun _ => 0))), (md, .inr (16, [.int 2, .ref ha, .long 0]))] := hD
      have er_12 : r_12 = 0 := w_11
      subst er_12
      have hP := hP.sub (ws' := [(md, .inr (16, [.int 2, .ref ha, .long 0]))]) [2] rfl
      have hD := hD.sub (ws' := [(md, .inr (16, [.int 2, .ref ha, .long 0]))]) [2] (by decide) rfl
      exact (sx_iret (v := 0) (2 : Int32) hx hb hr rfl hlk hP hD hS ⟨(z2_2 (zb_t w_2 c_4) (zb_f w_6 c_8)).symm, fun _ => rfl⟩ dX14_set_35 rfl rfl)
  · refine lv_aload_n hx hb dX14_set_14 rfl (lv_at hl 0 rfl) ?_
    refine lv_iconst (v := 1) hx hb dX14_set_15 (by decide) ?_
    have hcut : sx_cut [(md, .inr (16, [.int 0, .ref ha, .long 0])), (ha, .inr (12, [.ref l0, .ref v0, .ref v1, .ref l1, .ref l2, .ref l3, .int 0, .int 0, .int 0])), (v1, .inl (G.2.1, 6, .inl (fun _ => 0)))] [(md, .inr (16, [.int 0, .ref ha, .long 0]))] [(ha, .inr (12, [.ref l0, .ref v0, .ref v1, .ref l1, .ref l2, .ref l3, .int 0, .int 0, .int 0])), (v1, .inl (G.2.1, 6, .inl (fun _ => 0)))] [0] [1, 2] := ⟨rfl, rfl, by decide, by decide, by decide⟩
    refine sx_ki (sx_runV (As := [.int 1]) (rest := []) F (m_X14_refuse l G H.size md ha 0 1 0) mi_X14_refuse q935 qs_X14_refuse q933 ⟨⟨Nat.le_of_ble_eq_true rfl, Nat.le_of_ble_eq_true rfl⟩, Nat.le_of_ble_eq_true rfl, Nat.le_of_ble_eq_true rfl⟩ hcut hP hD hS 0 16 rfl rfl rfl hl.1 rfl (Nat.le_of_ble_eq_true rfl) dX14_set_16) hcut hP hD hS hA (fun r_15 u_13 H locs w_14 hP hD hS => ?_)
    have hP : va_P (sx_D G) vwCl [(ha, .inr (12, [.ref l0, .ref v0, .ref v1, .ref l1, .ref l2, .ref l3, .int 0, .int 0, .int 0])), (v1, .inl (G.2.1, 6, .inl (fun _ => 0))), (md, .inr (16, [.int 1, .ref ha, .long 0]))] H := hP
    have hD : va_D A [(ha, .inr (12, [.ref l0, .ref v0, .ref v1, .ref l1, .ref l2, .ref l3, .int 0, .int 0, .int 0])), (v1, .inl (G.2.1, 6, .inl (fun _ => 0))), (md, .inr (16, [.int 1, .ref ha, .long 0]))] := hD
    have er_15 : r_15 = 0 := w_14
    subst er_15
    have hP := hP.sub (ws' := [(md, .inr (16, [.int 1, .ref ha, .long 0]))]) [2] rfl
    have hD := hD.sub (ws' := [(md, .inr (16, [.int 1, .ref ha, .long 0]))]) [2] (by decide) rfl
    exact (sx_iret (v := 0) (1 : Int32) hx hb hr rfl hlk hP hD hS ⟨(z2_1 (zb_f w_2 c_4)).symm, fun _ => rfl⟩ dX14_set_19 rfl rfl)
