set_option maxHeartbeats 4000000 in
set_option maxRecDepth 100000 in
theorem m_Jx4a65c_grow_92f84 (l : Launch) (G : sx_G) (sz : Nat) (la : Nat) : sx_Met l yJx4a65c_grow_92f84 cJx4a65c_grow_92f84 4 (some (.array (.object "java/lang/Object"))) 1 14 1 10 G [.ref la, .int 1] [(la, .inr (1, [.int 1, .ref G.2.2.2.2.2.2.2, .int 0]))] sz (sx_Qr G (fun (u : Unit) => True) (fun (u : Unit) (r : Nat) => [(la, .inr (1, [.int 1, .ref r, .int 0])), (r, .inl (G.2.2.2.1, 10, .inr (.inr (.inr (.inr (fun _ => none))))))])) := by
  refine sx_start (by decide) rfl (fun p e s m below meth c A ls F hr hlk hnm hP hD hS hl => ?_)
  obtain ⟨hx, hb, hml, hown, hts, hK, hE, hA⟩ := id F
  have hown : s.vm.findClass RJx4a65c = some m.cls := hown
  generalize hHe : s.heap = H at hP
  have hS : va_S A s.heap H [] := by rw [← hHe]; exact va_S.rf
  have hl : lv_has ls 4 [(0, .ref la), (1, .int 1)] := hl
  refine lv_aload_n hx hb dJx4a65c_grow_92f84_0 rfl (lv_at hl 0 rfl) ?_
  refine va_get (D := sx_D G) (ci := 1) (v := .ref G.2.2.2.2.2.2.2) (C := RJx4a65c) (T := TJx4a65c) (N := 3) hx hb hts inJx4a65c hown hK hP 0 rfl rfl 1 (by decide) (hts _ q856) (fun _ h9 => h9) rfl dJx4a65c_grow_92f84_1 ?_
  refine va_tlen (v := 0) hx hb hE.2.2.2.2.2.2.1 hS (by decide) dJx4a65c_grow_92f84_4 ?_
  refine lv_istore_n (lv' := [(2, .int 0), (0, .ref la), (1, .int 1)]) hx hb dJx4a65c_grow_92f84_5 rfl hl (by decide) rfl (fun ls hl => ?_)
  refine lv_iload_n hx hb dJx4a65c_grow_92f84_6 rfl (lv_at hl 0 rfl) ?_
  refine lv_if_gt (tgt := 20) hx hb dJx4a65c_grow_92f84_7 (by decide) (fun c_1 => absurd c_1 (by decide)) (fun c_1 => ?_)
  refine lv_aload_n hx hb dJx4a65c_grow_92f84_10 rfl (lv_at hl 1 rfl) ?_
  refine va_get (D := sx_D G) (ci := 1) (v := .ref G.2.2.2.2.2.2.2) (C := RJx4a65c) (T := TJx4a65c) (N := 3) hx hb hts inJx4a65c hown hK hP 0 rfl rfl 1 (by decide) (hts _ q856) (fun _ h9 => h9) rfl dJx4a65c_grow_92f84_11 ?_
  refine va_gets hx hb (hE.2.2.2.2.2.1) hS hown (hts _ q854) (fun _ h9 => h9) dJx4a65c_grow_92f84_14 ?_
  refine lv_acmp_eq (tgt := 45) (rx := some G.2.2.2.2.2.2.2) (ry := some G.2.2.2.2.2.2.2) hx hb dJx4a65c_grow_92f84_17 (by decide) (fun _ => ?_) (fun c => absurd rfl c)
  refine lv_aload_n hx hb dJx4a65c_grow_92f84_45 rfl (lv_at hl 1 rfl) ?_
  refine lv_bipush (v := 10) hx hb dJx4a65c_grow_92f84_46 (by decide) ?_
  refine lv_iload_n hx hb dJx4a65c_grow_92f84_48 rfl (lv_at hl 2 rfl) ?_
  refine va_mmax hx hb (hml.trans hl.1.symm) hown (hts _ q1042) (hts _ q619) (hts _ q21) (hts _ q620) (Nat.le_of_ble_eq_true rfl) (Nat.le_of_ble_eq_true rfl) (Nat.le_of_ble_eq_true rfl) (Nat.le_of_ble_eq_true rfl) dJx4a65c_grow_92f84_49 ?_
  refine lv_topi (fun x_2 ex_2 => ?_)
  have ex_2 : x_2 = (10 : Int32) := ex_2.trans (by decide)
  subst ex_2
  refine sx_newq hx hb hown (hts _ q1043) hE.2.2.2.2.2.2.2.2.2.2.1 hK hP hD hS hA 10 (by decide) (by decide) (Nat.le_of_ble_eq_true rfl) (Nat.le_of_ble_eq_true rfl) (Nat.le_of_ble_eq_true rfl) dJx4a65c_grow_92f84_52 (fun h_3 H hP hD hS => ?_)
  have hP : va_P (sx_D G) vwCl [(la, .inr (1, [.int 1, .ref G.2.2.2.2.2.2.2, .int 0])), (h_3, .inl (G.2.2.2.1, 10, .inr (.inr (.inr (.inr (fun _ => none))))))] H := hP
  have hD : va_D A [(la, .inr (1, [.int 1, .ref G.2.2.2.2.2.2.2, .int 0])), (h_3, .inl (G.2.2.2.1, 10, .inr (.inr (.inr (.inr (fun _ => none))))))] := hD
  refine lv_dup_x1 hx hb dJx4a65c_grow_92f84_55 rfl rfl ?_
  refine va_put (D := sx_D G) (ci := 1) (v := .ref h_3) (ty := tyJx4a65c 1) (C := RJx4a65c) (T := TJx4a65c) (N := 3) hx hb hts inJx4a65c tyJx4a65c tyJx4a65c_ok nmJx4a65c hown hK hP hD hS 0 rfl rfl 1 (by decide) (hts _ q856) (fun _ h9 => h9) rfl (by decide +kernel) rfl rfl (Nat.le_of_ble_eq_true rfl) dJx4a65c_grow_92f84_56 (fun H locs hP hD hS => ?_)
  have hP : va_P (sx_D G) vwCl [(la, .inr (1, [.int 1, .ref h_3, .int 0])), (h_3, .inl (G.2.2.2.1, 10, .inr (.inr (.inr (.inr (fun _ => none))))))] H := hP
  have hD : va_D A [(la, .inr (1, [.int 1, .ref h_3, .int 0])), (h_3, .inl (G.2.2.2.1, 10, .inr (.inr (.inr (.inr (fun _ => none))))))] := hD
  exact (sx_aret (v := h_3) () hx hb hr (Or.inr ⟨_, rfl⟩) hlk hP hD hS trivial dJx4a65c_grow_92f84_59 rfl rfl)
set_option maxHeartbeats 4000000 in
set_option maxRecDepth 100000 in
theorem m_Jx4a65c_grow_d5877 (l : Launch) (G : sx_G) (sz : Nat) (la : Nat) : sx_Met l yJx4a65c_grow_d5877 cJx4a65c_grow_d5877 1 (some (.array (.object "java/lang/Object"))) 2 37 1 10 G [.ref la] [(la, .inr (1, [.int 1, .ref G.2.2.2.2.2.2.2, .int 0]))] sz (sx_Qr G (fun (u : Unit) => True) (fun (u : Unit) (r : Nat) => [(la, .inr (1, [.int 1, .ref r, .int 0])), (r, .inl (G.2.2.2.1, 10, .inr (.inr (.inr (.inr (fun _ => none))))))])) := by
  refine sx_start (by decide) rfl (fun p e s m below meth c A ls F hr hlk hnm hP hD hS hl => ?_)
  obtain ⟨hx, hb, hml, hown, hts, hK, hE, hA⟩ := id F
  have hown : s.vm.findClass RJx4a65c = some m.cls := hown
  generalize hHe : s.heap = H at hP
  have hS : va_S A s.heap H [] := by rw [← hHe]; exact va_S.rf
  have hl : lv_has ls 1 [(0, .ref la)] := hl
  refine lv_aload_n hx hb dJx4a65c_grow_d5877_0 rfl (lv_at hl 0 rfl) ?_
  refine lv_aload_n hx hb dJx4a65c_grow_d5877_1 rfl (lv_at hl 0 rfl) ?_
  refine va_get (D := sx_D G) (ci := 1) (v := .int 0) (C := RJx4a65c) (T := TJx4a65c) (N := 3) hx hb hts inJx4a65c hown hK hP 0 rfl rfl 2 (by decide) (hts _ q859) (fun _ h9 => h9) rfl dJx4a65c_grow_d5877_2 ?_
  refine lv_iconst (v := 1) hx hb dJx4a65c_grow_d5877_5 (by decide) ?_
  refine lv_iadd hx hb dJx4a65c_grow_d5877_6 ?_
  refine lv_topi (fun x_1 ex_1 => ?_)
  have ex_1 : x_1 = (1 : Int32) := ex_1.trans (by decide)
  subst ex_1
  have hcut : sx_cut [(la, .inr (1, [.int 1, .ref G.2.2.2.2.2.2.2, .int 0]))] [(la, .inr (1, [.int 1, .ref G.2.2.2.2.2.2.2, .int 0]))] [] [0] [] := ⟨rfl, rfl, by decide, by decide, by decide⟩
  refine sx_kr (sx_runV (As := [.int 1]) (rest := []) F (m_Jx4a65c_grow_92f84 l G H.size la) mi_Jx4a65c_grow_92f84 q997 qs_Jx4a65c_grow_92f84 q995 ⟨⟨Nat.le_of_ble_eq_true rfl, Nat.le_of_ble_eq_true rfl⟩, Nat.le_of_ble_eq_true rfl, Nat.le_of_ble_eq_true rfl⟩ hcut hP hD hS 0 1 rfl rfl rfl hl.1 rfl (Nat.le_of_ble_eq_true rfl) dJx4a65c_grow_d5877_7) hcut hP hD hS hA (fun u_2 r_4 H locs w_3 hP hD hS => ?_)
  have hP : va_P (sx_D G) vwCl [(la, .inr (1, [.int 1, .ref r_4, .int 0])), (r_4, .inl (G.2.2.2.1, 10, .inr (.inr (.inr (.inr (fun _ => none))))))] H := hP
  have hD : va_D A [(la, .inr (1, [.int 1, .ref r_4, .int 0])), (r_4, .inl (G.2.2.2.1, 10, .inr (.inr (.inr (.inr (fun _ => none))))))] := hD
  exact (sx_aret (v := r_4) () hx hb hr (Or.inr ⟨_, rfl⟩) hlk hP hD hS trivial dJx4a65c_grow_d5877_10 rfl rfl)
set_option maxHeartbeats 4000000 in
set_option maxRecDepth 100000 in
theorem m_add3_X8 (l : Launch) (G : sx_G) (sz : Nat) (la : Nat) (ob : Nat) (f0 : Int32) (f1 : Int32) (f2 : Int32) (f3 : Int32) (f4 : Int32) (f5 : Int32) (f6 : Int32) : sx_Met l yJx4a65c_add_72be8 cJx4a65c_add_72be8 4 none 3 57 1 10 G [.ref la, .ref ob, .ref G.2.2.2.2.2.2.2, .int 0] [(la, .inr (1, [.int 1, .ref G.2.2.2.2.2.2.2, .int 0])), (ob, .inr (10, [.int f0, .int f1, .int f2, .int f3, .int f4, .int f5, .int f6]))] sz (sx_Qv G (fun (u : Nat) => True) (fun (u : Nat) => [(la, .inr (1, [.int 1, .ref u, .int 1]))])) := by
  refine sx_start (by decide) rfl (fun p e s m below meth c A ls F hr hlk hnm hP hD hS hl => ?_)
  obtain ⟨hx, hb, hml, hown, hts, hK, hE, hA⟩ := id F
  have hown : s.vm.findClass RJx4a65c = some m.cls := hown
  generalize hHe : s.heap = H at hP
  have hS : va_S A s.heap H [] := by rw [← hHe]; exact va_S.rf
  have hl : lv_has ls 4 [(0, .ref la), (1, .ref ob), (2, .ref G.2.2.2.2.2.2.2), (3, .int 0)] := hl
  refine lv_iload_n hx hb dJx4a65c_add_72be8_0 rfl (lv_at hl 3 rfl) ?_
  refine lv_aload_n hx hb dJx4a65c_add_72be8_1 rfl (lv_at hl 2 rfl) ?_
  refine va_tlen (v := 0) hx hb hE.2.2.2.2.2.2.1 hS (by decide) dJx4a65c_add_72be8_2 ?_
  refine lv_icmp_ne (tgt := 11) hx hb dJx4a65c_add_72be8_3 (by decide) (fun c_1 => absurd (by decide) c_1) (fun c_1 => ?_)
  refine lv_aload_n hx hb dJx4a65c_add_72be8_6 rfl (lv_at hl 0 rfl) ?_
  have hcut : sx_cut [(la, .inr (1, [.int 1, .ref G.2.2.2.2.2.2.2, .int 0])), (ob, .inr (10, [.int f0, .int f1, .int f2, .int f3, .int f4, .int f5, .int f6]))] [(la, .inr (1, [.int 1, .ref G.2.2.2.2.2.2.2, .int 0]))] [(ob, .inr (10, [.int f0, .int f1, .int f2, .int f3, .int f4, .int f5, .int f6]))] [0] [1] := ⟨rfl, rfl, by decide, by decide, by decide⟩
  refine sx_kr (sx_runV (As := []) (rest := []) F (m_Jx4a65c_grow_d5877 l G H.size la) mi_Jx4a65c_grow_d5877 q993 qs_Jx4a65c_grow_d5877 q991 ⟨⟨Nat.le_of_ble_eq_true rfl, Nat.le_of_ble_eq_true rfl⟩, Nat.le_of_ble_eq_true rfl, Nat.le_of_ble_eq_true rfl⟩ hcut hP hD hS 0 1 rfl rfl rfl hl.1 rfl (Nat.le_of_ble_eq_true rfl) dJx4a65c_add_72be8_7) hcut hP hD hS hA (fun u_2 r_4 H locs w_3 hP hD hS => ?_)
  have hP : va_P (sx_D G) vwCl [(ob, .inr (10, [.int f0, .int f1, .int f2, .int f3, .int f4, .int f5, .int f6])), (la, .inr (1, [.int 1, .ref r_4, .int 0])), (r_4, .inl (G.2.2.2.1, 10, .inr (.inr (.inr (.inr (fun _ => none))))))] H := hP
  have hD : va_D A [(ob, .inr (10, [.int f0, .int f1, .int f2, .int f3, .int f4, .int f5, .int f6])), (la, .inr (1, [.int 1, .ref r_4, .int 0])), (r_4, .inl (G.2.2.2.1, 10, .inr (.inr (.inr (.inr (fun _ => none))))))] := hD
  refine lv_astore_n (lv' := [(2, .ref r_4), (0, .ref la), (1, .ref ob), (3, .int 0)]) hx hb dJx4a65c_add_72be8_10 rfl hl (by decide) rfl (fun ls hl => ?_)
  refine lv_aload_n hx hb dJx4a65c_add_72be8_11 rfl (lv_at hl 0 rfl) ?_
  refine lv_iload_n hx hb dJx4a65c_add_72be8_12 rfl (lv_at hl 3 rfl) ?_
  refine lv_aload_n hx hb dJx4a65c_add_72be8_13 rfl (lv_at hl 2 rfl) ?_
  refine va_astqO (D := sx_D G) (tys := sx_tys G) hx hb hK hP hD hS 2 2 0 10 rfl rfl (va_Nw.of rfl (hts _ q1491)) rfl rfl (vp_in_iff.mpr (by decide)) dJx4a65c_add_72be8_14 (fun H locs hP hD hS => ?_)
  have hP : va_P (sx_D G) vwCl [(ob, .inr (10, [.int f0, .int f1, .int f2, .int f3, .int f4, .int f5, .int f6])), (la, .inr (1, [.int 1, .ref r_4, .int 0])), (r_4, .inl (G.2.2.2.1, 10, .inr (.inr (.inr (.inr (va_up (fun _ => none) (0 : Int32).toNatClampNeg (some ob)))))))] H := hP
  have hD : va_D A [(ob, .inr (10, [.int f0, .int f1, .int f2, .int f3, .int f4, .int f5, .int f6])), (la, .inr (1, [.int 1, .ref r_4, .int 0])), (r_4, .inl (G.2.2.2.1, 10, .inr (.inr (.inr (.inr (va_up (fun _ => none) (0 : Int32).toNatClampNeg (some ob)))))))] := hD
  refine lv_aload_n hx hb dJx4a65c_add_72be8_15 rfl (lv_at hl 1 rfl) ?_
  refine lv_iload_n hx hb dJx4a65c_add_72be8_16 rfl (lv_at hl 3 rfl) ?_
  refine lv_iconst (v := 1) hx hb dJx4a65c_add_72be8_17 (by decide) ?_
  refine lv_iadd hx hb dJx4a65c_add_72be8_18 ?_
  refine lv_topi (fun x_5 ex_5 => ?_)
  have ex_5 : x_5 = (1 : Int32) := ex_5.trans (by decide)
  subst ex_5
  refine va_put (D := sx_D G) (ci := 1) (v := .int 1) (ty := tyJx4a65c 2) (C := RJx4a65c) (T := TJx4a65c) (N := 3) hx hb hts inJx4a65c tyJx4a65c tyJx4a65c_ok nmJx4a65c hown hK hP hD hS 1 rfl rfl 2 (by decide) (hts _ q859) (fun _ h9 => h9) rfl (by decide +kernel) rfl rfl (Nat.le_of_ble_eq_true rfl) dJx4a65c_add_72be8_19 (fun H locs hP hD hS => ?_)
  have hP : va_P (sx_D G) vwCl [(ob, .inr (10, [.int f0, .int f1, .int f2, .int f3, .int f4, .int f5, .int f6])), (la, .inr (1, [.int 1, .ref r_4, .int 1])), (r_4, .inl (G.2.2.2.1, 10, .inr (.inr (.inr (.inr (va_up (fun _ => none) (0 : Int32).toNatClampNeg (some ob)))))))] H := hP
  have hD : va_D A [(ob, .inr (10, [.int f0, .int f1, .int f2, .int f3, .int f4, .int f5, .int f6])), (la, .inr (1, [.int 1, .ref r_4, .int 1])), (r_4, .inl (G.2.2.2.1, 10, .inr (.inr (.inr (.inr (va_up (fun _ => none) (0 : Int32).toNatClampNeg (some ob)))))))] := hD
  have hP := hP.sub (ws' := [(la, .inr (1, [.int 1, .ref r_4, .int 1]))]) [1] rfl
  have hD := hD.sub (ws' := [(la, .inr (1, [.int 1, .ref r_4, .int 1]))]) [1] (by decide) rfl
  exact (sx_vret r_4 hx hb hr hlk hP hD hS trivial dJx4a65c_add_72be8_22 rfl rfl)
set_option maxHeartbeats 4000000 in
set_option maxRecDepth 100000 in
theorem m_add_X8 (l : Launch) (G : sx_G) (sz : Nat) (la : Nat) (ob : Nat) (f0 : Int32) (f1 : Int32) (f2 : Int32) (f3 : Int32) (f4 : Int32) (f5 : Int32) (f6 : Int32) : sx_Met l yJx4a65c_add_9ea2d cJx4a65c_add_9ea2d 2 (some .boolean) 4 80 1 10 G [.ref la, .ref ob] [(la, .inr (1, [.int 0, .ref G.2.2.2.2.2.2.2, .int 0])), (ob, .inr (10, [.int f0, .int f1, .int f2, .int f3, .int f4, .int f5, .int f6]))] sz (sx_Qi G (fun (r : Int32) (u : Nat) => r = 1) (fun (u : Nat) => [(la, .inr (1, [.int 1, .ref u, .int 1]))])) := by
  refine sx_start (by decide) rfl (fun p e s m below meth c A ls F hr hlk hnm hP hD hS hl => ?_)
  obtain ⟨hx, hb, hml, hown, hts, hK, hE, hA⟩ := id F
  have hown : s.vm.findClass RJx4a65c = some m.cls := hown
  generalize hHe : s.heap = H at hP
  have hS : va_S A s.heap H [] := by rw [← hHe]; exact va_S.rf
  have hl : lv_has ls 2 [(0, .ref la), (1, .ref ob)] := hl
  refine lv_aload_n hx hb dJx4a65c_add_9ea2d_0 rfl (lv_at hl 0 rfl) ?_
  refine lv_dup hx hb dJx4a65c_add_9ea2d_1 rfl ?_
  refine va_get (D := sx_D G) (ci := 1) (v := .int 0) (C := RJx4a65c) (T := TJx4a65c) (N := 3) hx hb hts inJx4a65c hown hK hP 0 rfl rfl 0 (by decide) (hts _ q863) (u_same (hts _ q862)) rfl dJx4a65c_add_9ea2d_2 ?_
  refine lv_iconst (v := 1) hx hb dJx4a65c_add_9ea2d_5 (by decide) ?_
  refine lv_iadd hx hb dJx4a65c_add_9ea2d_6 ?_
  refine lv_topi (fun x_1 ex_1 => ?_)
  have ex_1 : x_1 = (1 : Int32) := ex_1.trans (by decide)
  subst ex_1
  refine va_put (D := sx_D G) (ci := 1) (v := .int 1) (ty := tyJx4a65c 0) (C := RJx4a65c) (T := TJx4a65c) (N := 3) hx hb hts inJx4a65c tyJx4a65c tyJx4a65c_ok nmJx4a65c hown hK hP hD hS 0 rfl rfl 0 (by decide) (hts _ q863) (u_same (hts _ q862)) rfl (by decide +kernel) rfl rfl (Nat.le_of_ble_eq_true rfl) dJx4a65c_add_9ea2d_7 (fun H locs hP hD hS => ?_)
  have hP : va_P (sx_D G) vwCl [(la, .inr (1, [.int 1, .ref G.2.2.2.2.2.2.2, .int 0])), (ob, .inr (10, [.int f0, .int f1, .int f2, .int f3, .int f4, .int f5, .int f6]))] H := hP
  have hD : va_D A [(la, .inr (1, [.int 1, .ref G.2.2.2.2.2.2.2, .int 0])), (ob, .inr (10, [.int f0, .int f1, .int f2, .int f3, .int f4, .int f5, .int f6]))] := hD
  refine lv_aload_n hx hb dJx4a65c_add_9ea2d_10 rfl (lv_at hl 0 rfl) ?_
  refine lv_aload_n hx hb dJx4a65c_add_9ea2d_11 rfl (lv_at hl 1 rfl) ?_
  refine lv_aload_n hx hb dJx4a65c_add_9ea2d_12 rfl (lv_at hl 0 rfl) ?_
  refine va_get (D := sx_D G) (ci := 1) (v := .ref G.2.2.2.2.2.2.2) (C := RJx4a65c) (T := TJx4a65c) (N := 3) hx hb hts inJx4a65c hown hK hP 0 rfl rfl 1 (by decide) (hts _ q856) (fun _ h9 => h9) rfl dJx4a65c_add_9ea2d_13 ?_
  refine lv_aload_n hx hb dJx4a65c_add_9ea2d_16 rfl (lv_at hl 0 rfl) ?_
  refine va_get (D := sx_D G) (ci := 1) (v := .int 0) (C := RJx4a65c) (T := TJx4a65c) (N := 3) hx hb hts inJx4a65c hown hK hP 0 rfl rfl 2 (by decide) (hts _ q859) (fun _ h9 => h9) rfl dJx4a65c_add_9ea2d_17 ?_
  have hcut : sx_cut [(la, .inr (1, [.int 1, .ref G.2.2.2.2.2.2.2, .int 0])), (ob, .inr (10, [.int f0, .int f1, .int f2, .int f3, .int f4, .int f5, .int f6]))] [(la, .inr (1, [.int 1, .ref G.2.2.2.2.2.2.2, .int 0])), (ob, .inr (10, [.int f0, .int f1, .int f2, .int f3, .int f4, .int f5, .int f6]))] [] [0, 1] [] := ⟨rfl, rfl, by decide, by decide, by decide⟩
  refine sx_kv (sx_runV (As := [.ref ob, .ref G.2.2.2.2.2.2.2, .int 0]) (rest := []) F (m_add3_X8 l G H.size la ob f0 f1 f2 f3 f4 f5 f6) mi_Jx4a65c_add_72be8 q989 qs_Jx4a65c_add_72be8 q987 ⟨⟨Nat.le_of_ble_eq_true rfl, Nat.le_of_ble_eq_true rfl⟩, Nat.le_of_ble_eq_true rfl, Nat.le_of_ble_eq_true rfl⟩ hcut hP hD hS 0 1 rfl rfl rfl hl.1 rfl (Nat.le_of_ble_eq_true rfl) dJx4a65c_add_9ea2d_20) hcut hP hD hS hA (fun u_2 H locs w_3 hP hD hS => ?_)
  have hP : va_P (sx_D G) vwCl [(la, .inr (1, [.int 1, .ref u_2, .int 1]))] H := hP
  have hD : va_D A [(la, .inr (1, [.int 1, .ref u_2, .int 1]))] := hD
  refine lv_iconst (v := 1) hx hb dJx4a65c_add_9ea2d_23 (by decide) ?_
  exact (sx_iret (v := 1) u_2 hx hb hr (by decide) hlk hP hD hS rfl dJx4a65c_add_9ea2d_24 rfl rfl)
set_option maxHeartbeats 4000000 in
set_option maxRecDepth 100000 in
theorem m_add3_X13 (l : Launch) (G : sx_G) (sz : Nat) (la : Nat) (ob : Nat) (f0 : Int32) (f1 : Int32) (f2 : Int32) (f3 : Int32) (f4 : Int32) : sx_Met l yJx4a65c_add_72be8 cJx4a65c_add_72be8 4 none 3 57 1 10 G [.ref la, .ref ob, .ref G.2.2.2.2.2.2.2, .int 0] [(la, .inr (1, [.int 1, .ref G.2.2.2.2.2.2.2, .int 0])), (ob, .inr (15, [.int f0, .int f1, .int f2, .int f3, .int f4]))] sz (sx_Qv G (fun (u : Nat) => True) (fun (u : Nat) => [(la, .inr (1, [.int 1, .ref u, .int 1]))])) := by
  refine sx_start (by decide) rfl (fun p e s m below meth c A ls F hr hlk hnm hP hD hS hl => ?_)
  obtain ⟨hx, hb, hml, hown, hts, hK, hE, hA⟩ := id F
  have hown : s.vm.findClass RJx4a65c = some m.cls := hown
  generalize hHe : s.heap = H at hP
  have hS : va_S A s.heap H [] := by rw [← hHe]; exact va_S.rf
  have hl : lv_has ls 4 [(0, .ref la), (1, .ref ob), (2, .ref G.2.2.2.2.2.2.2), (3, .int 0)] := hl
  refine lv_iload_n hx hb dJx4a65c_add_72be8_0 rfl (lv_at hl 3 rfl) ?_
  refine lv_aload_n hx hb dJx4a65c_add_72be8_1 rfl (lv_at hl 2 rfl) ?_
  refine va_tlen (v := 0) hx hb hE.2.2.2.2.2.2.1 hS (by decide) dJx4a65c_add_72be8_2 ?_
  refine lv_icmp_ne (tgt := 11) hx hb dJx4a65c_add_72be8_3 (by decide) (fun c_1 => absurd (by decide) c_1) (fun c_1 => ?_)
  refine lv_aload_n hx hb dJx4a65c_add_72be8_6 rfl (lv_at hl 0 rfl) ?_
  have hcut : sx_cut [(la, .inr (1, [.int 1, .ref G.2.2.2.2.2.2.2, .int 0])), (ob, .inr (15, [.int f0, .int f1, .int f2, .int f3, .int f4]))] [(la, .inr (1, [.int 1, .ref G.2.2.2.2.2.2.2, .int 0]))] [(ob, .inr (15, [.int f0, .int f1, .int f2, .int f3, .int f4]))] [0] [1] := ⟨rfl, rfl, by decide, by decide, by decide⟩
  refine sx_kr (sx_runV (As := []) (rest := []) F (m_Jx4a65c_grow_d5877 l G H.size la) mi_Jx4a65c_grow_d5877 q993 qs_Jx4a65c_grow_d5877 q991 ⟨⟨Nat.le_of_ble_eq_true rfl, Nat.le_of_ble_eq_true rfl⟩, Nat.le_of_ble_eq_true rfl, Nat.le_of_ble_eq_true rfl⟩ hcut hP hD hS 0 1 rfl rfl rfl hl.1 rfl (Nat.le_of_ble_eq_true rfl) dJx4a65c_add_72be8_7) hcut hP hD hS hA (fun u_2 r_4 H locs w_3 hP hD hS => ?_)
  have hP : va_P (sx_D G) vwCl [(ob, .inr (15, [.int f0, .int f1, .int f2, .int f3, .int f4])), (la, .inr (1, [.int 1, .ref r_4, .int 0])), (r_4, .inl (G.2.2.2.1, 10, .inr (.inr (.inr (.inr (fun _ => none))))))] H := hP
  have hD : va_D A [(ob, .inr (15, [.int f0, .int f1, .int f2, .int f3, .int f4])), (la, .inr (1, [.int 1, .ref r_4, .int 0])), (r_4, .inl (G.2.2.2.1, 10, .inr (.inr (.inr (.inr (fun _ => none))))))] := hD
  refine lv_astore_n (lv' := [(2, .ref r_4), (0, .ref la), (1, .ref ob), (3, .int 0)]) hx hb dJx4a65c_add_72be8_10 rfl hl (by decide) rfl (fun ls hl => ?_)
  refine lv_aload_n hx hb dJx4a65c_add_72be8_11 rfl (lv_at hl 0 rfl) ?_
  refine lv_iload_n hx hb dJx4a65c_add_72be8_12 rfl (lv_at hl 3 rfl) ?_
  refine lv_aload_n hx hb dJx4a65c_add_72be8_13 rfl (lv_at hl 2 rfl) ?_
  refine va_astqO (D := sx_D G) (tys := sx_tys G) hx hb hK hP hD hS 2 2 0 15 rfl rfl (va_Nw.of rfl (hts _ q1495)) rfl rfl (vp_in_iff.mpr (by decide)) dJx4a65c_add_72be8_14 (fun H locs hP hD hS => ?_)
  have hP : va_P (sx_D G) vwCl [(ob, .inr (15, [.int f0, .int f1, .int f2, .int f3, .int f4])), (la, .inr (1, [.int 1, .ref r_4, .int 0])), (r_4, .inl (G.2.2.2.1, 10, .inr (.inr (.inr (.inr (va_up (fun _ => none) (0 : Int32).toNatClampNeg (some ob)))))))] H := hP
  have hD : va_D A [(ob, .inr (15, [.int f0, .int f1, .int f2, .int f3, .int f4])), (la, .inr (1, [.int 1, .ref r_4, .int 0])), (r_4, .inl (G.2.2.2.1, 10, .inr (.inr (.inr (.inr (va_up (fun _ => none) (0 : Int32).toNatClampNeg (some ob)))))))] := hD
  refine lv_aload_n hx hb dJx4a65c_add_72be8_15 rfl (lv_at hl 1 rfl) ?_
  refine lv_iload_n hx hb dJx4a65c_add_72be8_16 rfl (lv_at hl 3 rfl) ?_
  refine lv_iconst (v := 1) hx hb dJx4a65c_add_72be8_17 (by decide) ?_
  refine lv_iadd hx hb dJx4a65c_add_72be8_18 ?_
  refine lv_topi (fun x_5 ex_5 => ?_)
  have ex_5 : x_5 = (1 : Int32) := ex_5.trans (by decide)
  subst ex_5
  refine va_put (D := sx_D G) (ci := 1) (v := .int 1) (ty := tyJx4a65c 2) (C := RJx4a65c) (T := TJx4a65c) (N := 3) hx hb hts inJx4a65c tyJx4a65c tyJx4a65c_ok nmJx4a65c hown hK hP hD hS 1 rfl rfl 2 (by decide) (hts _ q859) (fun _ h9 => h9) rfl (by decide +kernel) rfl rfl (Nat.le_of_ble_eq_true rfl) dJx4a65c_add_72be8_19 (fun H locs hP hD hS => ?_)
  have hP : va_P (sx_D G) vwCl [(ob, .inr (15, [.int f0, .int f1, .int f2, .int f3, .int f4])), (la, .inr (1, [.int 1, .ref r_4, .int 1])), (r_4, .inl (G.2.2.2.1, 10, .inr (.inr (.inr (.inr (va_up (fun _ => none) (0 : Int32).toNatClampNeg (some ob)))))))] H := hP
  have hD : va_D A [(ob, .inr (15, [.int f0, .int f1, .int f2, .int f3, .int f4])), (la, .inr (1, [.int 1, .ref r_4, .int 1])), (r_4, .inl (G.2.2.2.1, 10, .inr (.inr (.inr (.inr (va_up (fun _ => none) (0 : Int32).toNatClampNeg (some ob)))))))] := hD
  have hP := hP.sub (ws' := [(la, .inr (1, [.int 1, .ref r_4, .int 1]))]) [1] rfl
  have hD := hD.sub (ws' := [(la, .inr (1, [.int 1, .ref r_4, .int 1]))]) [1] (by decide) rfl
  exact (sx_vret r_4 hx hb hr hlk hP hD hS trivial dJx4a65c_add_72be8_22 rfl rfl)
set_option maxHeartbeats 4000000 in
set_option maxRecDepth 100000 in
theorem m_add_X13 (l : Launch) (G : sx_G) (sz : Nat) (la : Nat) (ob : Nat) (f0 : Int32) (f1 : Int32) (f2 : Int32) (f3 : Int32) (f4 : Int32) : sx_Met l yJx4a65c_add_9ea2d cJx4a65c_add_9ea2d 2 (some .boolean) 4 80 1 10 G [.ref la, .ref ob] [(la, .inr (1, [.int 0, .ref G.2.2.2.2.2.2.2, .int 0])), (ob, .inr (15, [.int f0, .int f1, .int f2, .int f3, .int f4]))] sz (sx_Qi G (fun (r : Int32) (u : Nat) => r = 1) (fun (u : Nat) => [(la, .inr (1, [.int 1, .ref u, .int 1]))])) := by
  refine sx_start (by decide) rfl (fun p e s m below meth c A ls F hr hlk hnm hP hD hS hl => ?_)
  obtain ⟨hx, hb, hml, hown, hts, hK, hE, hA⟩ := id F
  have hown : s.vm.findClass RJx4a65c = some m.cls := hown
  generalize hHe : s.heap = H at hP
  have hS : va_S A s.heap H [] := by rw [← hHe]; exact va_S.rf
  have hl : lv_has ls 2 [(0, .ref la), (1, .ref ob)] := hl
  refine lv_aload_n hx hb dJx4a65c_add_9ea2d_0 rfl (lv_at hl 0 rfl) ?_
  refine lv_dup hx hb dJx4a65c_add_9ea2d_1 rfl ?_
  refine va_get (D := sx_D G) (ci := 1) (v := .int 0) (C := RJx4a65c) (T := TJx4a65c) (N := 3) hx hb hts inJx4a65c hown hK hP 0 rfl rfl 0 (by decide) (hts _ q863) (u_same (hts _ q862)) rfl dJx4a65c_add_9ea2d_2 ?_
  refine lv_iconst (v := 1) hx hb dJx4a65c_add_9ea2d_5 (by decide) ?_
  refine lv_iadd hx hb dJx4a65c_add_9ea2d_6 ?_
  refine lv_topi (fun x_1 ex_1 => ?_)
  have ex_1 : x_1 = (1 : Int32) := ex_1.trans (by decide)
  subst ex_1
  refine va_put (D := sx_D G) (ci := 1) (v := .int 1) (ty := tyJx4a65c 0) (C := RJx4a65c) (T := TJx4a65c) (N := 3) hx hb hts inJx4a65c tyJx4a65c tyJx4a65c_ok nmJx4a65c hown hK hP hD hS 0 rfl rfl 0 (by decide) (hts _ q863) (u_same (hts _ q862)) rfl (by decide +kernel) rfl rfl (Nat.le_of_ble_eq_true rfl) dJx4a65c_add_9ea2d_7 (fun H locs hP hD hS => ?_)
  have hP : va_P (sx_D G) vwCl [(la, .inr (1, [.int 1, .ref G.2.2.2.2.2.2.2, .int 0])), (ob, .inr (15, [.int f0, .int f1, .int f2, .int f3, .int f4]))] H := hP
  have hD : va_D A [(la, .inr (1, [.int 1, .ref G.2.2.2.2.2.2.2, .int 0])), (ob, .inr (15, [.int f0, .int f1, .int f2, .int f3, .int f4]))] := hD
  refine lv_aload_n hx hb dJx4a65c_add_9ea2d_10 rfl (lv_at hl 0 rfl) ?_
  refine lv_aload_n hx hb dJx4a65c_add_9ea2d_11 rfl (lv_at hl 1 rfl) ?_
  refine lv_aload_n hx hb dJx4a65c_add_9ea2d_12 rfl (lv_at hl 0 rfl) ?_
  refine va_get (D := sx_D G) (ci := 1) (v := .ref G.2.2.2.2.2.2.2) (C := RJx4a65c) (T := TJx4a65c) (N := 3) hx hb hts inJx4a65c hown hK hP 0 rfl rfl 1 (by decide) (hts _ q856) (fun _ h9 => h9) rfl dJx4a65c_add_9ea2d_13 ?_
  refine lv_aload_n hx hb dJx4a65c_add_9ea2d_16 rfl (lv_at hl 0 rfl) ?_
  refine va_get (D := sx_D G) (ci := 1) (v := .int 0) (C := RJx4a65c) (T := TJx4a65c) (N := 3) hx hb hts inJx4a65c hown hK hP 0 rfl rfl 2 (by decide) (hts _ q859) (fun _ h9 => h9) rfl dJx4a65c_add_9ea2d_17 ?_
  have hcut : sx_cut [(la, .inr (1, [.int 1, .ref G.2.2.2.2.2.2.2, .int 0])), (ob, .inr (15, [.int f0, .int f1, .int f2, .int f3, .int f4]))] [(la, .inr (1, [.int 1, .ref G.2.2.2.2.2.2.2, .int 0])), (ob, .inr (15, [.int f0, .int f1, .int f2, .int f3, .int f4]))] [] [0, 1] [] := ⟨rfl, rfl, by decide, by decide, by decide⟩
  refine sx_kv (sx_runV (As := [.ref ob, .ref G.2.2.2.2.2.2.2, .int 0]) (rest := []) F (m_add3_X13 l G H.size la ob f0 f1 f2 f3 f4) mi_Jx4a65c_add_72be8 q989 qs_Jx4a65c_add_72be8 q987 ⟨⟨Nat.le_of_ble_eq_true rfl, Nat.le_of_ble_eq_true rfl⟩, Nat.le_of_ble_eq_true rfl, Nat.le_of_ble_eq_true rfl⟩ hcut hP hD hS 0 1 rfl rfl rfl hl.1 rfl (Nat.le_of_ble_eq_true rfl) dJx4a65c_add_9ea2d_20) hcut hP hD hS hA (fun u_2 H locs w_3 hP hD hS => ?_)
  have hP : va_P (sx_D G) vwCl [(la, .inr (1, [.int 1, .ref u_2, .int 1]))] H := hP
  have hD : va_D A [(la, .inr (1, [.int 1, .ref u_2, .int 1]))] := hD
  refine lv_iconst (v := 1) hx hb dJx4a65c_add_9ea2d_23 (by decide) ?_
  exact (sx_iret (v := 1) u_2 hx hb hr (by decide) hlk hP hD hS rfl dJx4a65c_add_9ea2d_24 rfl rfl)
set_option maxHeartbeats 4000000 in
set_option maxRecDepth 100000 in
theorem m_add3_X12 (l : Launch) (G : sx_G) (sz : Nat) (la : Nat) (ob : Nat) (f0 : Int32) (f1 : Int32) (f2 : Int32) : sx_Met l yJx4a65c_add_72be8 cJx4a65c_add_72be8 4 none 3 57 1 10 G [.ref la, .ref ob, .ref G.2.2.2.2.2.2.2, .int 0] [(la, .inr (1, [.int 1, .ref G.2.2.2.2.2.2.2, .int 0])), (ob, .inr (14, [.int f0, .int f1, .int f2]))] sz (sx_Qv G (fun (u : Nat) => True) (fun (u : Nat) => [(la, .inr (1, [.int 1, .ref u, .int 1]))])) := by
  refine sx_start (by decide) rfl (fun p e s m below meth c A ls F hr hlk hnm hP hD hS hl => ?_)
  obtain ⟨hx, hb, hml, hown, hts, hK, hE, hA⟩ := id F
  have hown : s.vm.findClass RJx4a65c = some m.cls := hown
  generalize hHe : s.heap = H at hP
  have hS : va_S A s.heap H [] := by rw [← hHe]; exact va_S.rf
  have hl : lv_has ls 4 [(0, .ref la), (1, .ref ob), (2, .ref G.2.2.2.2.2.2.2), (3, .int 0)] := hl
  refine lv_iload_n hx hb dJx4a65c_add_72be8_0 rfl (lv_at hl 3 rfl) ?_
  refine lv_aload_n hx hb dJx4a65c_add_72be8_1 rfl (lv_at hl 2 rfl) ?_
  refine va_tlen (v := 0) hx hb hE.2.2.2.2.2.2.1 hS (by decide) dJx4a65c_add_72be8_2 ?_
  refine lv_icmp_ne (tgt := 11) hx hb dJx4a65c_add_72be8_3 (by decide) (fun c_1 => absurd (by decide) c_1) (fun c_1 => ?_)
  refine lv_aload_n hx hb dJx4a65c_add_72be8_6 rfl (lv_at hl 0 rfl) ?_
  have hcut : sx_cut [(la, .inr (1, [.int 1, .ref G.2.2.2.2.2.2.2, .int 0])), (ob, .inr (14, [.int f0, .int f1, .int f2]))] [(la, .inr (1, [.int 1, .ref G.2.2.2.2.2.2.2, .int 0]))] [(ob, .inr (14, [.int f0, .int f1, .int f2]))] [0] [1] := ⟨rfl, rfl, by decide, by decide, by decide⟩
  refine sx_kr (sx_runV (As := []) (rest := []) F (m_Jx4a65c_grow_d5877 l G H.size la) mi_Jx4a65c_grow_d5877 q993 qs_Jx4a65c_grow_d5877 q991 ⟨⟨Nat.le_of_ble_eq_true rfl, Nat.le_of_ble_eq_true rfl⟩, Nat.le_of_ble_eq_true rfl, Nat.le_of_ble_eq_true rfl⟩ hcut hP hD hS 0 1 rfl rfl rfl hl.1 rfl (Nat.le_of_ble_eq_true rfl) dJx4a65c_add_72be8_7) hcut hP hD hS hA (fun u_2 r_4 H locs w_3 hP hD hS => ?_)
  have hP : va_P (sx_D G) vwCl [(ob, .inr (14, [.int f0, .int f1, .int f2])), (la, .inr (1, [.int 1, .ref r_4, .int 0])), (r_4, .inl (G.2.2.2.1, 10, .inr (.inr (.inr (.inr (fun _ => none))))))] H := hP
  have hD : va_D A [(ob, .inr (14, [.int f0, .int f1, .int f2])), (la, .inr (1, [.int 1, .ref r_4, .int 0])), (r_4, .inl (G.2.2.2.1, 10, .inr (.inr (.inr (.inr (fun _ => none))))))] := hD
  refine lv_astore_n (lv' := [(2, .ref r_4), (0, .ref la), (1, .ref ob), (3, .int 0)]) hx hb dJx4a65c_add_72be8_10 rfl hl (by decide) rfl (fun ls hl => ?_)
  refine lv_aload_n hx hb dJx4a65c_add_72be8_11 rfl (lv_at hl 0 rfl) ?_
  refine lv_iload_n hx hb dJx4a65c_add_72be8_12 rfl (lv_at hl 3 rfl) ?_
  refine lv_aload_n hx hb dJx4a65c_add_72be8_13 rfl (lv_at hl 2 rfl) ?_
  refine va_astqO (D := sx_D G) (tys := sx_tys G) hx hb hK hP hD hS 2 2 0 14 rfl rfl (va_Nw.of rfl (hts _ q1496)) rfl rfl (vp_in_iff.mpr (by decide)) dJx4a65c_add_72be8_14 (fun H locs hP hD hS => ?_)
  have hP : va_P (sx_D G) vwCl [(ob, .inr (14, [.int f0, .int f1, .int f2])), (la, .inr (1, [.int 1, .ref r_4, .int 0])), (r_4, .inl (G.2.2.2.1, 10, .inr (.inr (.inr (.inr (va_up (fun _ => none) (0 : Int32).toNatClampNeg (some ob)))))))] H := hP
  have hD : va_D A [(ob, .inr (14, [.int f0, .int f1, .int f2])), (la, .inr (1, [.int 1, .ref r_4, .int 0])), (r_4, .inl (G.2.2.2.1, 10, .inr (.inr (.inr (.inr (va_up (fun _ => none) (0 : Int32).toNatClampNeg (some ob)))))))] := hD
  refine lv_aload_n hx hb dJx4a65c_add_72be8_15 rfl (lv_at hl 1 rfl) ?_
  refine lv_iload_n hx hb dJx4a65c_add_72be8_16 rfl (lv_at hl 3 rfl) ?_
  refine lv_iconst (v := 1) hx hb dJx4a65c_add_72be8_17 (by decide) ?_
  refine lv_iadd hx hb dJx4a65c_add_72be8_18 ?_
  refine lv_topi (fun x_5 ex_5 => ?_)
  have ex_5 : x_5 = (1 : Int32) := ex_5.trans (by decide)
  subst ex_5
  refine va_put (D := sx_D G) (ci := 1) (v := .int 1) (ty := tyJx4a65c 2) (C := RJx4a65c) (T := TJx4a65c) (N := 3) hx hb hts inJx4a65c tyJx4a65c tyJx4a65c_ok nmJx4a65c hown hK hP hD hS 1 rfl rfl 2 (by decide) (hts _ q859) (fun _ h9 => h9) rfl (by decide +kernel) rfl rfl (Nat.le_of_ble_eq_true rfl) dJx4a65c_add_72be8_19 (fun H locs hP hD hS => ?_)
  have hP : va_P (sx_D G) vwCl [(ob, .inr (14, [.int f0, .int f1, .int f2])), (la, .inr (1, [.int 1, .ref r_4, .int 1])), (r_4, .inl (G.2.2.2.1, 10, .inr (.inr (.inr (.inr (va_up (fun _ => none) (0 : Int32).toNatClampNeg (some ob)))))))] H := hP
  have hD : va_D A [(ob, .inr (14, [.int f0, .int f1, .int f2])), (la, .inr (1, [.int 1, .ref r_4, .int 1])), (r_4, .inl (G.2.2.2.1, 10, .inr (.inr (.inr (.inr (va_up (fun _ => none) (0 : Int32).toNatClampNeg (some ob)))))))] := hD
  have hP := hP.sub (ws' := [(la, .inr (1, [.int 1, .ref r_4, .int 1]))]) [1] rfl
  have hD := hD.sub (ws' := [(la, .inr (1, [.int 1, .ref r_4, .int 1]))]) [1] (by decide) rfl
  exact (sx_vret r_4 hx hb hr hlk hP hD hS trivial dJx4a65c_add_72be8_22 rfl rfl)
set_option maxHeartbeats 4000000 in
set_option maxRecDepth 100000 in
theorem m_add_X12 (l : Launch) (G : sx_G) (sz : Nat) (la : Nat) (ob : Nat) (f0 : Int32) (f1 : Int32) (f2 : Int32) : sx_Met l yJx4a65c_add_9ea2d cJx4a65c_add_9ea2d 2 (some .boolean) 4 80 1 10 G [.ref la, .ref ob] [(la, .inr (1, [.int 0, .ref G.2.2.2.2.2.2.2, .int 0])), (ob, .inr (14, [.int f0, .int f1, .int f2]))] sz (sx_Qi G (fun (r : Int32) (u : Nat) => r = 1) (fun (u : Nat) => [(la, .inr (1, [.int 1, .ref u, .int 1]))])) := by
  refine sx_start (by decide) rfl (fun p e s m below meth c A ls F hr hlk hnm hP hD hS hl => ?_)
  obtain ⟨hx, hb, hml, hown, hts, hK, hE, hA⟩ := id F
  have hown : s.vm.findClass RJx4a65c = some m.cls := hown
  generalize hHe : s.heap = H at hP
  have hS : va_S A s.heap H [] := by rw [← hHe]; exact va_S.rf
  have hl : lv_has ls 2 [(0, .ref la), (1, .ref ob)] := hl
  refine lv_aload_n hx hb dJx4a65c_add_9ea2d_0 rfl (lv_at hl 0 rfl) ?_
  refine lv_dup hx hb dJx4a65c_add_9ea2d_1 rfl ?_
  refine va_get (D := sx_D G) (ci := 1) (v := .int 0) (C := RJx4a65c) (T := TJx4a65c) (N := 3) hx hb hts inJx4a65c hown hK hP 0 rfl rfl 0 (by decide) (hts _ q863) (u_same (hts _ q862)) rfl dJx4a65c_add_9ea2d_2 ?_
  refine lv_iconst (v := 1) hx hb dJx4a65c_add_9ea2d_5 (by decide) ?_
  refine lv_iadd hx hb dJx4a65c_add_9ea2d_6 ?_
  refine lv_topi (fun x_1 ex_1 => ?_)
  have ex_1 : x_1 = (1 : Int32) := ex_1.trans (by decide)
  subst ex_1
  refine va_put (D := sx_D G) (ci := 1) (v := .int 1) (ty := tyJx4a65c 0) (C := RJx4a65c) (T := TJx4a65c) (N := 3) hx hb hts inJx4a65c tyJx4a65c tyJx4a65c_ok nmJx4a65c hown hK hP hD hS 0 rfl rfl 0 (by decide) (hts _ q863) (u_same (hts _ q862)) rfl (by decide +kernel) rfl rfl (Nat.le_of_ble_eq_true rfl) dJx4a65c_add_9ea2d_7 (fun H locs hP hD hS => ?_)
  have hP : va_P (sx_D G) vwCl [(la, .inr (1, [.int 1, .ref G.2.2.2.2.2.2.2, .int 0])), (ob, .inr (14, [.int f0, .int f1, .int f2]))] H := hP
  have hD : va_D A [(la, .inr (1, [.int 1, .ref G.2.2.2.2.2.2.2, .int 0])), (ob, .inr (14, [.int f0, .int f1, .int f2]))] := hD
  refine lv_aload_n hx hb dJx4a65c_add_9ea2d_10 rfl (lv_at hl 0 rfl) ?_
  refine lv_aload_n hx hb dJx4a65c_add_9ea2d_11 rfl (lv_at hl 1 rfl) ?_
  refine lv_aload_n hx hb dJx4a65c_add_9ea2d_12 rfl (lv_at hl 0 rfl) ?_
  refine va_get (D := sx_D G) (ci := 1) (v := .ref G.2.2.2.2.2.2.2) (C := RJx4a65c) (T := TJx4a65c) (N := 3) hx hb hts inJx4a65c hown hK hP 0 rfl rfl 1 (by decide) (hts _ q856) (fun _ h9 => h9) rfl dJx4a65c_add_9ea2d_13 ?_
  refine lv_aload_n hx hb dJx4a65c_add_9ea2d_16 rfl (lv_at hl 0 rfl) ?_
  refine va_get (D := sx_D G) (ci := 1) (v := .int 0) (C := RJx4a65c) (T := TJx4a65c) (N := 3) hx hb hts inJx4a65c hown hK hP 0 rfl rfl 2 (by decide) (hts _ q859) (fun _ h9 => h9) rfl dJx4a65c_add_9ea2d_17 ?_
  have hcut : sx_cut [(la, .inr (1, [.int 1, .ref G.2.2.2.2.2.2.2, .int 0])), (ob, .inr (14, [.int f0, .int f1, .int f2]))] [(la, .inr (1, [.int 1, .ref G.2.2.2.2.2.2.2, .int 0])), (ob, .inr (14, [.int f0, .int f1, .int f2]))] [] [0, 1] [] := ⟨rfl, rfl, by decide, by decide, by decide⟩
  refine sx_kv (sx_runV (As := [.ref ob, .ref G.2.2.2.2.2.2.2, .int 0]) (rest := []) F (m_add3_X12 l G H.size la ob f0 f1 f2) mi_Jx4a65c_add_72be8 q989 qs_Jx4a65c_add_72be8 q987 ⟨⟨Nat.le_of_ble_eq_true rfl, Nat.le_of_ble_eq_true rfl⟩, Nat.le_of_ble_eq_true rfl, Nat.le_of_ble_eq_true rfl⟩ hcut hP hD hS 0 1 rfl rfl rfl hl.1 rfl (Nat.le_of_ble_eq_true rfl) dJx4a65c_add_9ea2d_20) hcut hP hD hS hA (fun u_2 H locs w_3 hP hD hS => ?_)
  have hP : va_P (sx_D G) vwCl [(la, .inr (1, [.int 1, .ref u_2, .int 1]))] H := hP
  have hD : va_D A [(la, .inr (1, [.int 1, .ref u_2, .int 1]))] := hD
  refine lv_iconst (v := 1) hx hb dJx4a65c_add_9ea2d_23 (by decide) ?_
  exact (sx_iret (v := 1) u_2 hx hb hr (by decide) hlk hP hD hS rfl dJx4a65c_add_9ea2d_24 rfl rfl)
set_option maxHeartbeats 4000000 in
set_option maxRecDepth 100000 in
theorem m_X13_init (l : Launch) (G : sx_G) (sz : Nat) (h : Nat) : sx_Met l yX13_init cX13_init 1 none 1 12 0 0 G [.ref h] [(h, .inr (15, [.int 0, .int 0, .int 0, .int 0, .int 0]))] sz (sx_Qv G (fun (u : Unit) => True) (fun (u : Unit) => [(h, .inr (15, [.int 0, .int 50, .int 0, .int 0, .int 0]))])) := by
  refine sx_start (by decide) rfl (fun p e s m below meth c A ls F hr hlk hnm hP hD hS hl => ?_)
  obtain ⟨hx, hb, hml, hown, hts, hK, hE, hA⟩ := id F
  have hown : s.vm.findClass RX13 = some m.cls := hown
  generalize hHe : s.heap = H at hP
  have hS : va_S A s.heap H [] := by rw [← hHe]; exact va_S.rf
  have hl : lv_has ls 1 [(0, .ref h)] := hl
  refine lv_aload_n hx hb dX13_init_0 rfl (lv_at hl 0 rfl) ?_
  refine W.objInit hx hb hown (hts _ q1189) (hts _ q39) (hts _ q40) rfl (by rw [hml]; exact hl.1) rfl dX13_init_1 (Nat.le_of_ble_eq_true rfl) (Nat.le_of_ble_eq_true rfl) ?_
  refine W.eq (g2 := F0 m 4 ls []) rfl ?_
  refine lv_aload_n hx hb dX13_init_4 rfl (lv_at hl 0 rfl) ?_
  refine lv_bipush (v := 50) hx hb dX13_init_5 (by decide) ?_
  refine va_put (D := sx_D G) (ci := 15) (v := .int 50) (ty := tyX13 1) (C := RX13) (T := TX13) (N := 5) hx hb hts inX13 tyX13 tyX13_ok nmX13 hown hK hP hD hS 0 rfl rfl 1 (by decide) (hts _ q1192) (fun _ h9 => h9) rfl (by decide +kernel) rfl rfl (Nat.le_of_ble_eq_true rfl) dX13_init_7 (fun H locs hP hD hS => ?_)
  have hP : va_P (sx_D G) vwCl [(h, .inr (15, [.int 0, .int 50, .int 0, .int 0, .int 0]))] H := hP
  have hD : va_D A [(h, .inr (15, [.int 0, .int 50, .int 0, .int 0, .int 0]))] := hD
  exact (sx_vret () hx hb hr hlk hP hD hS trivial dX13_init_10 rfl rfl)
set_option maxHeartbeats 4000000 in
set_option maxRecDepth 100000 in
theorem m_X12_init (l : Launch) (G : sx_G) (sz : Nat) (h : Nat) : sx_Met l yX12_init cX12_init 1 none 1 12 0 0 G [.ref h] [(h, .inr (14, [.int 0, .int 0, .int 0]))] sz (sx_Qv G (fun (u : Unit) => True) (fun (u : Unit) => [(h, .inr (14, [.int 0, .int 0, .int 0]))])) := by
  refine sx_start (by decide) rfl (fun p e s m below meth c A ls F hr hlk hnm hP hD hS hl => ?_)
  obtain ⟨hx, hb, hml, hown, hts, hK, hE, hA⟩ := id F
  have hown : s.vm.findClass RX12 = some m.cls := hown
  generalize hHe : s.heap = H at hP
  have hS : va_S A s.heap H [] := by rw [← hHe]; exact va_S.rf
  have hl : lv_has ls 1 [(0, .ref h)] := hl
  refine lv_aload_n hx hb dX12_init_0 rfl (lv_at hl 0 rfl) ?_
  refine W.objInit hx hb hown (hts _ q1237) (hts _ q39) (hts _ q40) rfl (by rw [hml]; exact hl.1) rfl dX12_init_1 (Nat.le_of_ble_eq_true rfl) (Nat.le_of_ble_eq_true rfl) ?_
  refine W.eq (g2 := F0 m 4 ls []) rfl ?_
  exact (sx_vret () hx hb hr hlk hP hD hS trivial dX12_init_4 rfl rfl)
set_option maxHeartbeats 4000000 in
set_option maxRecDepth 100000 in
theorem m_X8_init (l : Launch) (G : sx_G) (sz : Nat) (h : Nat) (a0 : Int32) (a1 : Int32) (a2 : Int32) (a3 : Int32) (a4 : Int32) (a5 : Int32) (a6 : Int32) : sx_Met l yX8_init cX8_init 8 none 1 12 0 0 G [.ref h, .int a0, .int a1, .int a2, .int a3, .int a4, .int a5, .int a6] [(h, .inr (10, [.int 0, .int 0, .int 0, .int 0, .int 0, .int 0, .int 0]))] sz (sx_Qv G (fun (u : Unit) => True) (fun (u : Unit) => [(h, .inr (10, [.int a0, .int a1, .int a2, .int a3, .int a4, .int a5, .int a6]))])) := by
  refine sx_start (by decide) rfl (fun p e s m below meth c A ls F hr hlk hnm hP hD hS hl => ?_)
  obtain ⟨hx, hb, hml, hown, hts, hK, hE, hA⟩ := id F
  have hown : s.vm.findClass RX8 = some m.cls := hown
  generalize hHe : s.heap = H at hP
  have hS : va_S A s.heap H [] := by rw [← hHe]; exact va_S.rf
  have hl : lv_has ls 8 [(0, .ref h), (1, .int a0), (2, .int a1), (3, .int a2), (4, .int a3), (5, .int a4), (6, .int a5), (7, .int a6)] := hl
  refine lv_aload_n hx hb dX8_init_0 rfl (lv_at hl 0 rfl) ?_
  refine W.objInit hx hb hown (hts _ q942) (hts _ q39) (hts _ q40) rfl (by rw [hml]; exact hl.1) rfl dX8_init_1 (Nat.le_of_ble_eq_true rfl) (Nat.le_of_ble_eq_true rfl) ?_
  refine W.eq (g2 := F0 m 4 ls []) rfl ?_
  refine lv_aload_n hx hb dX8_init_4 rfl (lv_at hl 0 rfl) ?_
  refine lv_iload_n hx hb dX8_init_5 rfl (lv_at hl 1 rfl) ?_
  refine va_putF (D := sx_D G) (ci := 10) (v := .int a0) (ty := tyX8 0) (C := RX8) (T := TX8) (N := 7) hx hb hts inX8 tyX8 tyX8_ok nmX8 hown hK hP hD hS 0 rfl rfl 0 (by decide) (hts _ q943) (fun _ h9 => h9) rfl hnm rfl (by decide +kernel) rfl rfl (Nat.le_of_ble_eq_true rfl) dX8_init_6 (fun H locs hP hD hS => ?_)
  have hP : va_P (sx_D G) vwCl [(h, .inr (10, [.int a0, .int 0, .int 0, .int 0, .int 0, .int 0, .int 0]))] H := hP
  have hD : va_D A [(h, .inr (10, [.int a0, .int 0, .int 0, .int 0, .int 0, .int 0, .int 0]))] := hD
  refine lv_aload_n hx hb dX8_init_9 rfl (lv_at hl 0 rfl) ?_
  refine lv_iload_n hx hb dX8_init_10 rfl (lv_at hl 2 rfl) ?_
  refine va_putF (D := sx_D G) (ci := 10) (v := .int a1) (ty := tyX8 1) (C := RX8) (T := TX8) (N := 7) hx hb hts inX8 tyX8 tyX8_ok nmX8 hown hK hP hD hS 0 rfl rfl 1 (by decide) (hts _ q946) (fun _ h9 => h9) rfl hnm rfl (by decide +kernel) rfl rfl (Nat.le_of_ble_eq_true rfl) dX8_init_11 (fun H locs hP hD hS => ?_)
  have hP : va_P (sx_D G) vwCl [(h, .inr (10, [.int a0, .int a1, .int 0, .int 0, .int 0, .int 0, .int 0]))] H := hP
  have hD : va_D A [(h, .inr (10, [.int a0, .int a1, .int 0, .int 0, .int 0, .int 0, .int 0]))] := hD
  refine lv_aload_n hx hb dX8_init_14 rfl (lv_at hl 0 rfl) ?_
  refine lv_iload_n hx hb dX8_init_15 rfl (lv_at hl 3 rfl) ?_
  refine va_putF (D := sx_D G) (ci := 10) (v := .int a2) (ty := tyX8 2) (C := RX8) (T := TX8) (N := 7) hx hb hts inX8 tyX8 tyX8_ok nmX8 hown hK hP hD hS 0 rfl rfl 2 (by decide) (hts _ q949) (fun _ h9 => h9) rfl hnm rfl (by decide +kernel) rfl rfl (Nat.le_of_ble_eq_true rfl) dX8_init_16 (fun H locs hP hD hS => ?_)
  have hP : va_P (sx_D G) vwCl [(h, .inr (10, [.int a0, .int a1, .int a2, .int 0, .int 0, .int 0, .int 0]))] H := hP
  have hD : va_D A [(h, .inr (10, [.int a0, .int a1, .int a2, .int 0, .int 0, .int 0, .int 0]))] := hD
  refine lv_aload_n hx hb dX8_init_19 rfl (lv_at hl 0 rfl) ?_
  refine lv_iload hx hb dX8_init_20 (lv_at hl 4 rfl) ?_
  refine va_putF (D := sx_D G) (ci := 10) (v := .int a3) (ty := tyX8 3) (C := RX8) (T := TX8) (N := 7) hx hb hts inX8 tyX8 tyX8_ok nmX8 hown hK hP hD hS 0 rfl rfl 3 (by decide) (hts _ q952) (fun _ h9 => h9) rfl hnm rfl (by decide +kernel) rfl rfl (Nat.le_of_ble_eq_true rfl) dX8_init_22 (fun H locs hP hD hS => ?_)
  have hP : va_P (sx_D G) vwCl [(h, .inr (10, [.int a0, .int a1, .int a2, .int a3, .int 0, .int 0, .int 0]))] H := hP
  have hD : va_D A [(h, .inr (10, [.int a0, .int a1, .int a2, .int a3, .int 0, .int 0, .int 0]))] := hD
  refine lv_aload_n hx hb dX8_init_25 rfl (lv_at hl 0 rfl) ?_
  refine lv_iload hx hb dX8_init_26 (lv_at hl 5 rfl) ?_
  refine va_put (D := sx_D G) (ci := 10) (v := .int a4) (ty := tyX8 4) (C := RX8) (T := TX8) (N := 7) hx hb hts inX8 tyX8 tyX8_ok nmX8 hown hK hP hD hS 0 rfl rfl 4 (by decide) (hts _ q956) (fun _ h9 => h9) rfl (by decide +kernel) rfl rfl (Nat.le_of_ble_eq_true rfl) dX8_init_28 (fun H locs hP hD hS => ?_)
  have hP : va_P (sx_D G) vwCl [(h, .inr (10, [.int a0, .int a1, .int a2, .int a3, .int a4, .int 0, .int 0]))] H := hP
  have hD : va_D A [(h, .inr (10, [.int a0, .int a1, .int a2, .int a3, .int a4, .int 0, .int 0]))] := hD
  refine lv_aload_n hx hb dX8_init_31 rfl (lv_at hl 0 rfl) ?_
  refine lv_iload hx hb dX8_init_32 (lv_at hl 6 rfl) ?_
  refine va_putF (D := sx_D G) (ci := 10) (v := .int a5) (ty := tyX8 5) (C := RX8) (T := TX8) (N := 7) hx hb hts inX8 tyX8 tyX8_ok nmX8 hown hK hP hD hS 0 rfl rfl 5 (by decide) (hts _ q960) (fun _ h9 => h9) rfl hnm rfl (by decide +kernel) rfl rfl (Nat.le_of_ble_eq_true rfl) dX8_init_34 (fun H locs hP hD hS => ?_)
  have hP : va_P (sx_D G) vwCl [(h, .inr (10, [.int a0, .int a1, .int a2, .int a3, .int a4, .int a5, .int 0]))] H := hP
  have hD : va_D A [(h, .inr (10, [.int a0, .int a1, .int a2, .int a3, .int a4, .int a5, .int 0]))] := hD
  refine lv_aload_n hx hb dX8_init_37 rfl (lv_at hl 0 rfl) ?_
  refine lv_iload hx hb dX8_init_38 (lv_at hl 7 rfl) ?_
  refine va_putF (D := sx_D G) (ci := 10) (v := .int a6) (ty := tyX8 6) (C := RX8) (T := TX8) (N := 7) hx hb hts inX8 tyX8 tyX8_ok nmX8 hown hK hP hD hS 0 rfl rfl 6 (by decide) (hts _ q964) (fun _ h9 => h9) rfl hnm rfl (by decide +kernel) rfl rfl (Nat.le_of_ble_eq_true rfl) dX8_init_40 (fun H locs hP hD hS => ?_)
  have hP : va_P (sx_D G) vwCl [(h, .inr (10, [.int a0, .int a1, .int a2, .int a3, .int a4, .int a5, .int a6]))] H := hP
  have hD : va_D A [(h, .inr (10, [.int a0, .int a1, .int a2, .int a3, .int a4, .int a5, .int a6]))] := hD
  exact (sx_vret () hx hb hr hlk hP hD hS trivial dX8_init_43 rfl rfl)
set_option maxHeartbeats 4000000 in
set_option maxRecDepth 100000 in
theorem m_X14_worker (l : Launch) (G : sx_G) (sz : Nat) (md : Nat) (ha : Nat) (l0 : Nat) (v0 : Nat) (v1 : Nat) (l1 : Nat) (l2 : Nat) (l3 : Nat) (p0 : Int32) : sx_Met l yX14_worker cX14_worker 3 (some .int) 5 101 2 15 G [.ref md, .int p0] [(md, .inr (16, [.int 0, .ref ha, .long 0])), (ha, .inr (12, [.ref l0, .ref v0, .ref v1, .ref l1, .ref l2, .ref l3, .int 0, .int 0, .int 0])), (l1, .inr (1, [.int 0, .ref G.2.2.2.2.2.2.2, .int 0]))] sz (sx_Qi G (fun (r : Int32) (u : Int32) => u = z1 (zw 0 9 p0) ∧ (u = 0 → r = 0)) (fun (u : Int32) => [(md, .inr (16, [.int u, .ref ha, .long 0]))])) := by
  refine sx_start (by decide) rfl (fun p e s m below meth c A ls F hr hlk hnm hP hD hS hl => ?_)
  obtain ⟨hx, hb, hml, hown, hts, hK, hE, hA⟩ := id F
  have hown : s.vm.findClass RX14 = some m.cls := hown
  generalize hHe : s.heap = H at hP
  have hS : va_S A s.heap H [] := by rw [← hHe]; exact va_S.rf
  have hl : lv_has ls 3 [(0, .ref md), (1, .int p0)] := hl
  refine lv_aload_n hx hb dX14_worker_0 rfl (lv_at hl 0 rfl) ?_
  refine lv_iconst (v := 0) hx hb dX14_worker_1 (by decide) ?_
  refine va_put (D := sx_D G) (ci := 16) (v := .int 0) (ty := tyX14 0) (C := RX14) (T := TX14) (N := 3) hx hb hts inX14 tyX14 tyX14_ok nmX14 hown hK hP hD hS 0 rfl rfl 0 (by decide) (hts _ q908) (fun _ h9 => h9) rfl (by decide +kernel) rfl rfl (Nat.le_of_ble_eq_true rfl) dX14_worker_2 (fun H locs hP hD hS => ?_)
  have hP : va_P (sx_D G) vwCl [(md, .inr (16, [.int 0, .ref ha, .long 0])), (ha, .inr (12, [.ref l0, .ref v0, .ref v1, .ref l1, .ref l2, .ref l3, .int 0, .int 0, .int 0])), (l1, .inr (1, [.int 0, .ref G.2.2.2.2.2.2.2, .int 0]))] H := hP
  have hD : va_D A [(md, .inr (16, [.int 0, .ref ha, .long 0])), (ha, .inr (12, [.ref l0, .ref v0, .ref v1, .ref l1, .ref l2, .ref l3, .int 0, .int 0, .int 0])), (l1, .inr (1, [.int 0, .ref G.2.2.2.2.2.2.2, .int 0]))] := hD
  refine lv_iload_n hx hb dX14_worker_5 rfl (lv_at hl 1 rfl) ?_
  refine lv_iconst (v := 0) hx hb dX14_worker_6 (by decide) ?_
  refine lv_bipush (v := 9) hx hb dX14_worker_7 (by decide) ?_
  have hcut : sx_cut [(md, .inr (16, [.int 0, .ref ha, .long 0])), (ha, .inr (12, [.ref l0, .ref v0, .ref v1, .ref l1, .ref l2, .ref l3, .int 0, .int 0, .int 0])), (l1, .inr (1, [.int 0, .ref G.2.2.2.2.2.2.2, .int 0]))] [] [(md, .inr (16, [.int 0, .ref ha, .long 0])), (ha, .inr (12, [.ref l0, .ref v0, .ref v1, .ref l1, .ref l2, .ref l3, .int 0, .int 0, .int 0])), (l1, .inr (1, [.int 0, .ref G.2.2.2.2.2.2.2, .int 0]))] [] [0, 1, 2] := ⟨rfl, rfl, by decide, by decide, by decide⟩
  refine sx_ki (sx_runS (As := [.int p0, .int 0, .int 9]) (rest := []) F (m_X14_is l G H.size p0 0 9) mi_X14_is q931 q930 ⟨⟨Nat.le_of_ble_eq_true rfl, Nat.le_of_ble_eq_true rfl⟩, Nat.le_of_ble_eq_true rfl, Nat.le_of_ble_eq_true rfl⟩ hcut hP hD hS rfl hl.1 rfl (Nat.le_of_ble_eq_true rfl) dX14_worker_9) hcut hP hD hS hA (fun r_3 u_1 H locs w_2 hP hD hS => ?_)
  have hP : va_P (sx_D G) vwCl [(md, .inr (16, [.int 0, .ref ha, .long 0])), (ha, .inr (12, [.ref l0, .ref v0, .ref v1, .ref l1, .ref l2, .ref l3, .int 0, .int 0, .int 0])), (l1, .inr (1, [.int 0, .ref G.2.2.2.2.2.2.2, .int 0]))] H := hP
  have hD : va_D A [(md, .inr (16, [.int 0, .ref ha, .long 0])), (ha, .inr (12, [.ref l0, .ref v0, .ref v1, .ref l1, .ref l2, .ref l3, .int 0, .int 0, .int 0])), (l1, .inr (1, [.int 0, .ref G.2.2.2.2.2.2.2, .int 0]))] := hD
  have w_2 : r_3 = zb (zw 0 9 p0) := w_2
  refine lv_if_ne (tgt := 21) hx hb dX14_worker_12 (by decide) (fun c_4 => ?_) (fun c_4 => ?_)
  · refine lv_aload_n hx hb dX14_worker_21 rfl (lv_at hl 0 rfl) ?_
    refine va_get (D := sx_D G) (ci := 16) (v := .ref ha) (C := RX14) (T := TX14) (N := 3) hx hb hts inX14 hown hK hP 0 rfl rfl 1 (by decide) (hts _ q909) (fun _ h9 => h9) rfl dX14_worker_22 ?_
    refine va_getN (D := sx_D G) (ci := 12) (v := .ref l1) (C := RX10) (T := TX10) (N := 9) hx hb hts inX10 hown hK hP 1 rfl rfl 3 (by decide) (hts _ q878) (fun _ h9 => h9) rfl dX14_worker_25 ?_
    have hcut : sx_cut [(md, .inr (16, [.int 0, .ref ha, .long 0])), (ha, .inr (12, [.ref l0, .ref v0, .ref v1, .ref l1, .ref l2, .ref l3, .int 0, .int 0, .int 0])), (l1, .inr (1, [.int 0, .ref G.2.2.2.2.2.2.2, .int 0]))] [(l1, .inr (1, [.int 0, .ref G.2.2.2.2.2.2.2, .int 0]))] [(md, .inr (16, [.int 0, .ref ha, .long 0])), (ha, .inr (12, [.ref l0, .ref v0, .ref v1, .ref l1, .ref l2, .ref l3, .int 0, .int 0, .int 0]))] [2] [0, 1] := ⟨rfl, rfl, by decide, by decide, by decide⟩
    refine sx_ki (sx_runV (As := []) (rest := []) F (m_Jx4a65c_size_8abf5 l G H.size l1 G.2.2.2.2.2.2.2 0 0) mi_Jx4a65c_size_8abf5 q927 qs_Jx4a65c_size_8abf5 q926 ⟨⟨Nat.le_of_ble_eq_true rfl, Nat.le_of_ble_eq_true rfl⟩, Nat.le_of_ble_eq_true rfl, Nat.le_of_ble_eq_true rfl⟩ hcut hP hD hS 2 1 rfl rfl rfl hl.1 rfl (Nat.le_of_ble_eq_true rfl) dX14_worker_28) hcut hP hD hS hA (fun r_7 u_5 H locs w_6 hP hD hS => ?_)
    have hP : va_P (sx_D G) vwCl [(md, .inr (16, [.int 0, .ref ha, .long 0])), (ha, .inr (12, [.ref l0, .ref v0, .ref v1, .ref l1, .ref l2, .ref l3, .int 0, .int 0, .int 0])), (l1, .inr (1, [.int 0, .ref G.2.2.2.2.2.2.2, .int 0]))] H := hP
    have hD : va_D A [(md, .inr (16, [.int 0, .ref ha, .long 0])), (ha, .inr (12, [.ref l0, .ref v0, .ref v1, .ref l1, .ref l2, .ref l3, .int 0, .int 0, .int 0])), (l1, .inr (1, [.int 0, .ref G.2.2.2.2.2.2.2, .int 0]))] := hD
    have er_7 : r_7 = 0 := w_6
    subst er_7
    refine lv_iconst (v := 4) hx hb dX14_worker_31 (by decide) ?_
    refine lv_icmp_ne (tgt := 41) hx hb dX14_worker_32 (by decide) (fun c_8 => ?_) (fun c_8 => absurd c_8 (by decide))
    refine va_new (ci := 15) (fs := [.int 0, .int 0, .int 0, .int 0, .int 0]) (C := RX13) (T := TX13) (N := 5) hx hb hts inX13 tyX13 tyX13_ok hown (hts _ q1184) (hts _ q1185) (hts _ q29) hK hP hD hS hA rfl (fun j hj => by rcases (show j = 0 ∨ j = 1 ∨ j = 2 ∨ j = 3 ∨ j = 4 by omega) with rfl | rfl | rfl | rfl | rfl <;> rfl) (Nat.le_of_ble_eq_true rfl) (Nat.le_of_ble_eq_true rfl) dX14_worker_41 (fun h_9 H hP hD hS => ?_)
    have hP : va_P (sx_D G) vwCl [(md, .inr (16, [.int 0, .ref ha, .long 0])), (ha, .inr (12, [.ref l0, .ref v0, .ref v1, .ref l1, .ref l2, .ref l3, .int 0, .int 0, .int 0])), (l1, .inr (1, [.int 0, .ref G.2.2.2.2.2.2.2, .int 0])), (h_9, .inr (15, [.int 0, .int 0, .int 0, .int 0, .int 0]))] H := hP
    have hD : va_D A [(md, .inr (16, [.int 0, .ref ha, .long 0])), (ha, .inr (12, [.ref l0, .ref v0, .ref v1, .ref l1, .ref l2, .ref l3, .int 0, .int 0, .int 0])), (l1, .inr (1, [.int 0, .ref G.2.2.2.2.2.2.2, .int 0])), (h_9, .inr (15, [.int 0, .int 0, .int 0, .int 0, .int 0]))] := hD
    refine lv_dup hx hb dX14_worker_44 rfl ?_
    have hcut : sx_cut [(md, .inr (16, [.int 0, .ref ha, .long 0])), (ha, .inr (12, [.ref l0, .ref v0, .ref v1, .ref l1, .ref l2, .ref l3, .int 0, .int 0, .int 0])), (l1, .inr (1, [.int 0, .ref G.2.2.2.2.2.2.2, .int 0])), (h_9, .inr (15, [.int 0, .int 0, .int 0, .int 0, .int 0]))] [(h_9, .inr (15, [.int 0, .int 0, .int 0, .int 0, .int 0]))] [(md, .inr (16, [.int 0, .ref ha, .long 0])), (ha, .inr (12, [.ref l0, .ref v0, .ref v1, .ref l1, .ref l2, .ref l3, .int 0, .int 0, .int 0])), (l1, .inr (1, [.int 0, .ref G.2.2.2.2.2.2.2, .int 0]))] [3] [0, 1, 2] := ⟨rfl, rfl, by decide, by decide, by decide⟩
    refine sx_kv (sx_runIN (As := []) (rest := [.ref h_9]) F (m_X13_init l G H.size h_9) mi_X13_init q1187 rfl q1186 ⟨⟨Nat.le_of_ble_eq_true rfl, Nat.le_of_ble_eq_true rfl⟩, Nat.le_of_ble_eq_true rfl, Nat.le_of_ble_eq_true rfl⟩ hcut hP hD hS rfl hl.1 rfl (Nat.le_of_ble_eq_true rfl) dX14_worker_45) hcut hP hD hS hA (fun u_10 H locs w_11 hP hD hS => ?_)
    have hP : va_P (sx_D G) vwCl [(md, .inr (16, [.int 0, .ref ha, .long 0])), (ha, .inr (12, [.ref l0, .ref v0, .ref v1, .ref l1, .ref l2, .ref l3, .int 0, .int 0, .int 0])), (l1, .inr (1, [.int 0, .ref G.2.2.2.2.2.2.2, .int 0])), (h_9, .inr (15, [.int 0, .int 50, .int 0, .int 0, .int 0]))] H := hP
    have hD : va_D A [(md, .inr (16, [.int 0, .ref ha, .long 0])), (ha, .inr (12, [.ref l0, .ref v0, .ref v1, .ref l1, .ref l2, .ref l3, .int 0, .int 0, .int 0])), (l1, .inr (1, [.int 0, .ref G.2.2.2.2.2.2.2, .int 0])), (h_9, .inr (15, [.int 0, .int 50, .int 0, .int 0, .int 0]))] := hD
    refine lv_astore_n (lv' := [(2, .ref h_9), (0, .ref md), (1, .int p0)]) hx hb dX14_worker_48 rfl hl (by decide) rfl (fun ls hl => ?_)
    refine lv_aload_n hx hb dX14_worker_49 rfl (lv_at hl 0 rfl) ?_
    refine lv_iload_n hx hb dX14_worker_50 rfl (lv_at hl 2 rfl) ?_
    refine va_putN (D := sx_D G) (ci := 15) (v := .int p0) (ty := tyX13 0) (C := RX13) (T := TX13) (N := 5) hx hb hts inX13 tyX13 tyX13_ok nmX13 hown hK hP hD hS 3 rfl rfl 0 (by decide) (hts _ q1191) (fun _ h9 => h9) rfl (by decide +kernel) rfl rfl (Nat.le_of_ble_eq_true rfl) dX14_worker_51 (fun H locs hP hD hS => ?_)
    have hP : va_P (sx_D G) vwCl [(md, .inr (16, [.int 0, .ref ha, .long 0])), (ha, .inr (12, [.ref l0, .ref v0, .ref v1, .ref l1, .ref l2, .ref l3, .int 0, .int 0, .int 0])), (l1, .inr (1, [.int 0, .ref G.2.2.2.2.2.2.2, .int 0])), (h_9, .inr (15, [.int p0, .int 50, .int 0, .int 0, .int 0]))] H := hP
    have hD : va_D A [(md, .inr (16, [.int 0, .ref ha, .long 0])), (ha, .inr (12, [.ref l0, .ref v0, .ref v1, .ref l1, .ref l2, .ref l3, .int 0, .int 0, .int 0])), (l1, .inr (1, [.int 0, .ref G.2.2.2.2.2.2.2, .int 0])), (h_9, .inr (15, [.int p0, .int 50, .int 0, .int 0, .int 0]))] := hD
    refine lv_aload_n hx hb dX14_worker_54 rfl (lv_at hl 1 rfl) ?_
    refine va_get (D := sx_D G) (ci := 16) (v := .ref ha) (C := RX14) (T := TX14) (N := 3) hx hb hts inX14 hown hK hP 0 rfl rfl 1 (by decide) (hts _ q909) (fun _ h9 => h9) rfl dX14_worker_55 ?_
    refine va_getN (D := sx_D G) (ci := 12) (v := .ref l1) (C := RX10) (T := TX10) (N := 9) hx hb hts inX10 hown hK hP 1 rfl rfl 3 (by decide) (hts _ q878) (fun _ h9 => h9) rfl dX14_worker_58 ?_
    refine lv_aload_n hx hb dX14_worker_61 rfl (lv_at hl 0 rfl) ?_
    have hcut : sx_cut [(md, .inr (16, [.int 0, .ref ha, .long 0])), (ha, .inr (12, [.ref l0, .ref v0, .ref v1, .ref l1, .ref l2, .ref l3, .int 0, .int 0, .int 0])), (l1, .inr (1, [.int 0, .ref G.2.2.2.2.2.2.2, .int 0])), (h_9, .inr (15, [.int p0, .int 50, .int 0, .int 0, .int 0]))] [(l1, .inr (1, [.int 0, .ref G.2.2.2.2.2.2.2, .int 0])), (h_9, .inr (15, [.int p0, .int 50, .int 0, .int 0, .int 0]))] [(md, .inr (16, [.int 0, .ref ha, .long 0])), (ha, .inr (12, [.ref l0, .ref v0, .ref v1, .ref l1, .ref l2, .ref l3, .int 0, .int 0, .int 0]))] [2, 3] [0, 1] := ⟨rfl, rfl, by decide, by decide, by decide⟩
    refine sx_ki (sx_runV (As := [.ref h_9]) (rest := []) F (m_add_X13 l G H.size l1 h_9 p0 50 0 0 0) mi_Jx4a65c_add_9ea2d q984 qs_Jx4a65c_add_9ea2d q983 ⟨⟨Nat.le_of_ble_eq_true rfl, Nat.le_of_ble_eq_true rfl⟩, Nat.le_of_ble_eq_true rfl, Nat.le_of_ble_eq_true rfl⟩ hcut hP hD hS 2 1 rfl rfl rfl hl.1 rfl (Nat.le_of_ble_eq_true rfl) dX14_worker_62) hcut hP hD hS hA (fun r_15 u_13 H locs w_14 hP hD hS => ?_)
    have hP : va_P (sx_D G) vwCl [(md, .inr (16, [.int 0, .ref ha, .long 0])), (ha, .inr (12, [.ref l0, .ref v0, .ref v1, .ref l1, .ref l2, .ref l3, .int 0, .int 0, .int 0])), (l1, .inr (1, [.int 1, .ref u_13, .int 1]))] H := hP
    have hD : va_D A [(md, .inr (16, [.int 0, .ref ha, .long 0])), (ha, .inr (12, [.ref l0, .ref v0, .ref v1, .ref l1, .ref l2, .ref l3, .int 0, .int 0, .int 0])), (l1, .inr (1, [.int 1, .ref u_13, .int 1]))] := hD
    have er_15 : r_15 = 1 := w_14
    subst er_15
    refine lv_pop hx hb dX14_worker_65 rfl ?_
    refine lv_aload_n hx hb dX14_worker_66 rfl (lv_at hl 1 rfl) ?_
    refine va_get (D := sx_D G) (ci := 16) (v := .ref ha) (C := RX14) (T := TX14) (N := 3) hx hb hts inX14 hown hK hP 0 rfl rfl 1 (by decide) (hts _ q909) (fun _ h9 => h9) rfl dX14_worker_67 ?_
    refine va_getN (D := sx_D G) (ci := 12) (v := .ref l1) (C := RX10) (T := TX10) (N := 9) hx hb hts inX10 hown hK hP 1 rfl rfl 3 (by decide) (hts _ q878) (fun _ h9 => h9) rfl dX14_worker_70 ?_
    have hcut : sx_cut [(md, .inr (16, [.int 0, .ref ha, .long 0])), (ha, .inr (12, [.ref l0, .ref v0, .ref v1, .ref l1, .ref l2, .ref l3, .int 0, .int 0, .int 0])), (l1, .inr (1, [.int 1, .ref u_13, .int 1]))] [(l1, .inr (1, [.int 1, .ref u_13, .int 1]))] [(md, .inr (16, [.int 0, .ref ha, .long 0])), (ha, .inr (12, [.ref l0, .ref v0, .ref v1, .ref l1, .ref l2, .ref l3, .int 0, .int 0, .int 0]))] [2] [0, 1] := ⟨rfl, rfl, by decide, by decide, by decide⟩
    refine sx_ki (sx_runV (As := []) (rest := []) F (m_Jx4a65c_size_8abf5 l G H.size l1 u_13 1 1) mi_Jx4a65c_size_8abf5 q927 qs_Jx4a65c_size_8abf5 q926 ⟨⟨Nat.le_of_ble_eq_true rfl, Nat.le_of_ble_eq_true rfl⟩, Nat.le_of_ble_eq_true rfl, Nat.le_of_ble_eq_true rfl⟩ hcut hP hD hS 2 1 rfl rfl rfl hl.1 rfl (Nat.le_of_ble_eq_true rfl) dX14_worker_73) hcut hP hD hS hA (fun r_18 u_16 H locs w_17 hP hD hS => ?_)
    have hP : va_P (sx_D G) vwCl [(md, .inr (16, [.int 0, .ref ha, .long 0])), (ha, .inr (12, [.ref l0, .ref v0, .ref v1, .ref l1, .ref l2, .ref l3, .int 0, .int 0, .int 0])), (l1, .inr (1, [.int 1, .ref u_13, .int 1]))] H := hP
    have hD : va_D A [(md, .inr (16, [.int 0, .ref ha, .long 0])), (ha, .inr (12, [.ref l0, .ref v0, .ref v1, .ref l1, .ref l2, .ref l3, .int 0, .int 0, .int 0])), (l1, .inr (1, [.int 1, .ref u_13, .int 1]))] := hD
    have er_18 : r_18 = 1 := w_17
    subst er_18
    refine lv_iconst (v := 1) hx hb dX14_worker_76 (by decide) ?_
    refine lv_isub hx hb dX14_worker_77 ?_
    refine lv_topi (fun x_19 ex_19 => ?_)
    have ex_19 : x_19 = (0 : Int32) := ex_19.trans (by decide)
    subst ex_19
    have hP := hP.sub (ws' := [(md, .inr (16, [.int 0, .ref ha, .long 0]))]) [0] rfl
    have hD := hD.sub (ws' := [(md, .inr (16, [.int 0, .ref ha, .long 0]))]) [0] (by decide) rfl
    exact (sx_iret (v := 0) (0 : Int32) hx hb hr rfl hlk hP hD hS ⟨(z1_0 (zb_t w_2 c_4)).symm, fun _ => rfl⟩ dX14_worker_78 rfl rfl)
  · refine lv_aload_n hx hb dX14_worker_15 rfl (lv_at hl 0 rfl) ?_
    refine lv_iconst (v := 1) hx hb dX14_worker_16 (by decide) ?_
    have hcut : sx_cut [(md, .inr (16, [.int 0, .ref ha, .long 0])), (ha, .inr (12, [.ref l0, .ref v0, .ref v1, .ref l1, .ref l2, .ref l3, .int 0, .int 0, .int 0])), (l1, .inr (1, [.int 0, .ref G.2.2.2.2.2.2.2, .int 0]))] [(md, .inr (16, [.int 0, .ref ha, .long 0]))] [(ha, .inr (12, [.ref l0, .ref v0, .ref v1, .ref l1, .ref l2, .ref l3, .int 0, .int 0, .int 0])), (l1, .inr (1, [.int 0, .ref G.2.2.2.2.2.2.2, .int 0]))] [0] [1, 2] := ⟨rfl, rfl, by decide, by decide, by decide⟩
    refine sx_ki (sx_runV (As := [.int 1]) (rest := []) F (m_X14_refuse l G H.size md ha 0 1 0) mi_X14_refuse q935 qs_X14_refuse q933 ⟨⟨Nat.le_of_ble_eq_true rfl, Nat.le_of_ble_eq_true rfl⟩, Nat.le_of_ble_eq_true rfl, Nat.le_of_ble_eq_true rfl⟩ hcut hP hD hS 0 16 rfl rfl rfl hl.1 rfl (Nat.le_of_ble_eq_true rfl) dX14_worker_17) hcut hP hD hS hA (fun r_22 u_20 H locs w_21 hP hD hS => ?_)
    have hP : va_P (sx_D G) vwCl [(ha, .inr (12, [.ref l0, .ref v0, .ref v1, .ref l1, .ref l2, .ref l3, .int 0, .int 0, .int 0])), (l1, .inr (1, [.int 0, .ref G.2.2.2.2.2.2.2, .int 0])), (md, .inr (16, [.int 1, .ref ha, .long 0]))] H := hP
    have hD : va_D A [(ha, .inr (12, [.ref l0, .ref v0, .ref v1, .ref l1, .ref l2, .ref l3, .int 0, .int 0, .int 0])), (l1, .inr (1, [.int 0, .ref G.2.2.2.2.2.2.2, .int 0])), (md, .inr (16, [.int 1, .ref ha, .long 0]))] := hD
    have er_22 : r_22 = 0 := w_21
    subst er_22
    have hP := hP.sub (ws' := [(md, .inr (16, [.int 1, .ref ha, .long 0]))]) [2] rfl
    have hD := hD.sub (ws' := [(md, .inr (16, [.int 1, .ref ha, .long 0]))]) [2] (by decide) rfl
    exact (sx_iret (v := 0) (1 : Int32) hx hb hr rfl hlk hP hD hS ⟨(z1_1 (zb_f w_2 c_4)).symm, fun _ => rfl⟩ dX14_worker_20 rfl rfl)
set_option maxHeartbeats 4000000 in
set_option maxRecDepth 100000 in
theorem m_X14_team (l : Launch) (G : sx_G) (sz : Nat) (md : Nat) (ha : Nat) (l0 : Nat) (v0 : Nat) (v1 : Nat) (l1 : Nat) (l2 : Nat) (l3 : Nat) (p0 : Int32) : sx_Met l yX14_team cX14_team 3 (some .int) 5 101 2 13 G [.ref md, .int p0] [(md, .inr (16, [.int 0, .ref ha, .long 0])), (ha, .inr (12, [.ref l0, .ref v0, .ref v1, .ref l1, .ref l2, .ref l3, .int 0, .int 0, .int 0])), (l2, .inr (1, [.int 0, .ref G.2.2.2.2.2.2.2, .int 0]))] sz (sx_Qi G (fun (r : Int32) (u : Int32) => u = z1 (zw 0 100 p0) ∧ (u = 0 → r = 0)) (fun (u : Int32) => [(md, .inr (16, [.int u, .ref ha, .long 0]))])) := by
  refine sx_start (by decide) rfl (fun p e s m below meth c A ls F hr hlk hnm hP hD hS hl => ?_)
  obtain ⟨hx, hb, hml, hown, hts, hK, hE, hA⟩ := id F
  have hown : s.vm.findClass RX14 = some m.cls := hown
  generalize hHe : s.heap = H at hP
  have hS : va_S A s.heap H [] := by rw [← hHe]; exact va_S.rf
  have hl : lv_has ls 3 [(0, .ref md), (1, .int p0)] := hl
  refine lv_aload_n hx hb dX14_team_0 rfl (lv_at hl 0 rfl) ?_
  refine lv_iconst (v := 0) hx hb dX14_team_1 (by decide) ?_
  refine va_put (D := sx_D G) (ci := 16) (v := .int 0) (ty := tyX14 0) (C := RX14) (T := TX14) (N := 3) hx hb hts inX14 tyX14 tyX14_ok nmX14 hown hK hP hD hS 0 rfl rfl 0 (by decide) (hts _ q908) (fun _ h9 => h9) rfl (by decide +kernel) rfl rfl (Nat.le_of_ble_eq_true rfl) dX14_team_2 (fun H locs hP hD hS => ?_)
  have hP : va_P (sx_D G) vwCl [(md, .inr (16, [.int 0, .ref ha, .long 0])), (ha, .inr (12, [.ref l0, .ref v0, .ref v1, .ref l1, .ref l2, .ref l3, .int 0, .int 0, .int 0])), (l2, .inr (1, [.int 0, .ref G.2.2.2.2.2.2.2, .int 0]))] H := hP
  have hD : va_D A [(md, .inr (16, [.int 0, .ref ha, .long 0])), (ha, .inr (12, [.ref l0, .ref v0, .ref v1, .ref l1, .ref l2, .ref l3, .int 0, .int 0, .int 0])), (l2, .inr (1, [.int 0, .ref G.2.2.2.2.2.2.2, .int 0]))] := hD
  refine lv_iload_n hx hb dX14_team_5 rfl (lv_at hl 1 rfl) ?_
  refine lv_iconst (v := 0) hx hb dX14_team_6 (by decide) ?_
  refine lv_bipush (v := 100) hx hb dX14_team_7 (by decide) ?_
  have hcut : sx_cut [(md, .inr (16, [.int 0, .ref ha, .long 0])), (ha, .inr (12, [.ref l0, .ref v0, .ref v1, .ref l1, .ref l2, .ref l3, .int 0, .int 0, .int 0])), (l2, .inr (1, [.int 0, .ref G.2.2.2.2.2.2.2, .int 0]))] [] [(md, .inr (16, [.int 0, .ref ha, .long 0])), (ha, .inr (12, [.ref l0, .ref v0, .ref v1, .ref l1, .ref l2, .ref l3, .int 0, .int 0, .int 0])), (l2, .inr (1, [.int 0, .ref G.2.2.2.2.2.2.2, .int 0]))] [] [0, 1, 2] := ⟨rfl, rfl, by decide, by decide, by decide⟩
  refine sx_ki (sx_runS (As := [.int p0, .int 0, .int 100]) (rest := []) F (m_X14_is l G H.size p0 0 100) mi_X14_is q931 q930 ⟨⟨Nat.le_of_ble_eq_true rfl, Nat.le_of_ble_eq_true rfl⟩, Nat.le_of_ble_eq_true rfl, Nat.le_of_ble_eq_true rfl⟩ hcut hP hD hS rfl hl.1 rfl (Nat.le_of_ble_eq_true rfl) dX14_team_9) hcut hP hD hS hA (fun r_3 u_1 H locs w_2 hP hD hS => ?_)
  have hP : va_P (sx_D G) vwCl [(md, .inr (16, [.int 0, .ref ha, .long 0])), (ha, .inr (12, [.ref l0, .ref v0, .ref v1, .ref l1, .ref l2, .ref l3, .int 0, .int 0, .int 0])), (l2, .inr (1, [.int 0, .ref G.2.2.2.2.2.2.2, .int 0]))] H := hP
  have hD : va_D A [(md, .inr (16, [.int 0, .ref ha, .long 0])), (ha, .inr (12, [.ref l0, .ref v0, .ref v1, .ref l1, .ref l2, .ref l3, .int 0, .int 0, .int 0])), (l2, .inr (1, [.int 0, .ref G.2.2.2.2.2.2.2, .int 0]))] := hD
  have w_2 : r_3 = zb (zw 0 100 p0) := w_2
  refine lv_if_ne (tgt := 21) hx hb dX14_team_12 (by decide) (fun c_4 => ?_) (fun c_4 => ?_)
  · refine lv_aload_n hx hb dX14_team_21 rfl (lv_at hl 0 rfl) ?_
    refine va_get (D := sx_D G) (ci := 16) (v := .ref ha) (C := RX14) (T := TX14) (N := 3) hx hb hts inX14 hown hK hP 0 rfl rfl 1 (by decide) (hts _ q909) (fun _ h9 => h9) rfl dX14_team_22 ?_
    refine va_getN (D := sx_D G) (ci := 12) (v := .ref l2) (C := RX10) (T := TX10) (N := 9) hx hb hts inX10 hown hK hP 1 rfl rfl 4 (by decide) (hts _ q880) (fun _ h9 => h9) rfl dX14_team_25 ?_
    have hcut : sx_cut [(md, .inr (16, [.int 0, .ref ha, .long 0])), (ha, .inr (12, [.ref l0, .ref v0, .ref v1, .ref l1, .ref l2, .ref l3, .int 0, .int 0, .int 0])), (l2, .inr (1, [.int 0, .ref G.2.2.2.2.2.2.2, .int 0]))] [(l2, .inr (1, [.int 0, .ref G.2.2.2.2.2.2.2, .int 0]))] [(md, .inr (16, [.int 0, .ref ha, .long 0])), (ha, .inr (12, [.ref l0, .ref v0, .ref v1, .ref l1, .ref l2, .ref l3, .int 0, .int 0, .int 0]))] [2] [0, 1] := ⟨rfl, rfl, by decide, by decide, by decide⟩
    refine sx_ki (sx_runV (As := []) (rest := []) F (m_Jx4a65c_size_8abf5 l G H.size l2 G.2.2.2.2.2.2.2 0 0) mi_Jx4a65c_size_8abf5 q927 qs_Jx4a65c_size_8abf5 q926 ⟨⟨Nat.le_of_ble_eq_true rfl, Nat.le_of_ble_eq_true rfl⟩, Nat.le_of_ble_eq_true rfl, Nat.le_of_ble_eq_true rfl⟩ hcut hP hD hS 2 1 rfl rfl rfl hl.1 rfl (Nat.le_of_ble_eq_true rfl) dX14_team_28) hcut hP hD hS hA (fun r_7 u_5 H locs w_6 hP hD hS => ?_)
    have hP : va_P (sx_D G) vwCl [(md, .inr (16, [.int 0, .ref ha, .long 0])), (ha, .inr (12, [.ref l0, .ref v0, .ref v1, .ref l1, .ref l2, .ref l3, .int 0, .int 0, .int 0])), (l2, .inr (1, [.int 0, .ref G.2.2.2.2.2.2.2, .int 0]))] H := hP
    have hD : va_D A [(md, .inr (16, [.int 0, .ref ha, .long 0])), (ha, .inr (12, [.ref l0, .ref v0, .ref v1, .ref l1, .ref l2, .ref l3, .int 0, .int 0, .int 0])), (l2, .inr (1, [.int 0, .ref G.2.2.2.2.2.2.2, .int 0]))] := hD
    have er_7 : r_7 = 0 := w_6
    subst er_7
    refine lv_iconst (v := 4) hx hb dX14_team_31 (by decide) ?_
    refine lv_icmp_ne (tgt := 41) hx hb dX14_team_32 (by decide) (fun c_8 => ?_) (fun c_8 => absurd c_8 (by decide))
    refine va_new (ci := 14) (fs := [.int 0, .int 0, .int 0]) (C := RX12) (T := TX12) (N := 3) hx hb hts inX12 tyX12 tyX12_ok hown (hts _ q1232) (hts _ q1233) (hts _ q30) hK hP hD hS hA rfl (fun j hj => by rcases (show j = 0 ∨ j = 1 ∨ j = 2 by omega) with rfl | rfl | rfl <;> rfl) (Nat.le_of_ble_eq_true rfl) (Nat.le_of_ble_eq_true rfl) dX14_team_41 (fun h_9 H hP hD hS => ?_)
    have hP : va_P (sx_D G) vwCl [(md, .inr (16, [.int 0, .ref ha, .long 0])), (ha, .inr (12, [.ref l0, .ref v0, .ref v1, .ref l1, .ref l2, .ref l3, .int 0, .int 0, .int 0])), (l2, .inr (1, [.int 0, .ref G.2.2.2.2.2.2.2, .int 0])), (h_9, .inr (14, [.int 0, .int 0, .int 0]))] H := hP
    have hD : va_D A [(md, .inr (16, [.int 0, .ref ha, .long 0])), (ha, .inr (12, [.ref l0, .ref v0, .ref v1, .ref l1, .ref l2, .ref l3, .int 0, .int 0, .int 0])), (l2, .inr (1, [.int 0, .ref G.2.2.2.2.2.2.2, .int 0])), (h_9, .inr (14, [.int 0, .int 0, .int 0]))] := hD
    refine lv_dup hx hb dX14_team_44 rfl ?_
    have hcut : sx_cut [(md, .inr (16, [.int 0, .ref ha, .long 0])), (ha, .inr (12, [.ref l0, .ref v0, .ref v1, .ref l1, .ref l2, .ref l3, .int 0, .int 0, .int 0])), (l2, .inr (1, [.int 0, .ref G.2.2.2.2.2.2.2, .int 0])), (h_9, .inr (14, [.int 0, .int 0, .int 0]))] [(h_9, .inr (14, [.int 0, .int 0, .int 0]))] [(md, .inr (16, [.int 0, .ref ha, .long 0])), (ha, .inr (12, [.ref l0, .ref v0, .ref v1, .ref l1, .ref l2, .ref l3, .int 0, .int 0, .int 0])), (l2, .inr (1, [.int 0, .ref G.2.2.2.2.2.2.2, .int 0]))] [3] [0, 1, 2] := ⟨rfl, rfl, by decide, by decide, by decide⟩
    refine sx_kv (sx_runIN (As := []) (rest := [.ref h_9]) F (m_X12_init l G H.size h_9) mi_X12_init q1235 rfl q1234 ⟨⟨Nat.le_of_ble_eq_true rfl, Nat.le_of_ble_eq_true rfl⟩, Nat.le_of_ble_eq_true rfl, Nat.le_of_ble_eq_true rfl⟩ hcut hP hD hS rfl hl.1 rfl (Nat.le_of_ble_eq_true rfl) dX14_team_45) hcut hP hD hS hA (fun u_10 H locs w_11 hP hD hS => ?_)
    have hP : va_P (sx_D G) vwCl [(md, .inr (16, [.int 0, .ref ha, .long 0])), (ha, .inr (12, [.ref l0, .ref v0, .ref v1, .ref l1, .ref l2, .ref l3, .int 0, .int 0, .int 0])), (l2, .inr (1, [.int 0, .ref G.2.2.2.2.2.2.2, .int 0])), (h_9, .inr (14, [.int 0, .int 0, .int 0]))] H := hP
    have hD : va_D A [(md, .inr (16, [.int 0, .ref ha, .long 0])), (ha, .inr (12, [.ref l0, .ref v0, .ref v1, .ref l1, .ref l2, .ref l3, .int 0, .int 0, .int 0])), (l2, .inr (1, [.int 0, .ref G.2.2.2.2.2.2.2, .int 0])), (h_9, .inr (14, [.int 0, .int 0, .int 0]))] := hD
    refine lv_astore_n (lv' := [(2, .ref h_9), (0, .ref md), (1, .int p0)]) hx hb dX14_team_48 rfl hl (by decide) rfl (fun ls hl => ?_)
    refine lv_aload_n hx hb dX14_team_49 rfl (lv_at hl 0 rfl) ?_
    refine lv_iload_n hx hb dX14_team_50 rfl (lv_at hl 2 rfl) ?_
    refine va_putN (D := sx_D G) (ci := 14) (v := .int p0) (ty := tyX12 0) (C := RX12) (T := TX12) (N := 3) hx hb hts inX12 tyX12 tyX12_ok nmX12 hown hK hP hD hS 3 rfl rfl 0 (by decide) (hts _ q1239) (fun _ h9 => h9) rfl (by decide +kernel) rfl rfl (Nat.le_of_ble_eq_true rfl) dX14_team_51 (fun H locs hP hD hS => ?_)
    have hP : va_P (sx_D G) vwCl [(md, .inr (16, [.int 0, .ref ha, .long 0])), (ha, .inr (12, [.ref l0, .ref v0, .ref v1, .ref l1, .ref l2, .ref l3, .int 0, .int 0, .int 0])), (l2, .inr (1, [.int 0, .ref G.2.2.2.2.2.2.2, .int 0])), (h_9, .inr (14, [.int p0, .int 0, .int 0]))] H := hP
    have hD : va_D A [(md, .inr (16, [.int 0, .ref ha, .long 0])), (ha, .inr (12, [.ref l0, .ref v0, .ref v1, .ref l1, .ref l2, .ref l3, .int 0, .int 0, .int 0])), (l2, .inr (1, [.int 0, .ref G.2.2.2.2.2.2.2, .int 0])), (h_9, .inr (14, [.int p0, .int 0, .int 0]))] := hD
    refine lv_aload_n hx hb dX14_team_54 rfl (lv_at hl 1 rfl) ?_
    refine va_get (D := sx_D G) (ci := 16) (v := .ref ha) (C := RX14) (T := TX14) (N := 3) hx hb hts inX14 hown hK hP 0 rfl rfl 1 (by decide) (hts _ q909) (fun _ h9 => h9) rfl dX14_team_55 ?_
    refine va_getN (D := sx_D G) (ci := 12) (v := .ref l2) (C := RX10) (T := TX10) (N := 9) hx hb hts inX10 hown hK hP 1 rfl rfl 4 (by decide) (hts _ q880) (fun _ h9 => h9) rfl dX14_team_58 ?_
    refine lv_aload_n hx hb dX14_team_61 rfl (lv_at hl 0 rfl) ?_
    have hcut : sx_cut [(md, .inr (16, [.int 0, .ref ha, .long 0])), (ha, .inr (12, [.ref l0, .ref v0, .ref v1, .ref l1, .ref l2, .ref l3, .int 0, .int 0, .int 0])), (l2, .inr (1, [.int 0, .ref G.2.2.2.2.2.2.2, .int 0])), (h_9, .inr (14, [.int p0, .int 0, .int 0]))] [(l2, .inr (1, [.int 0, .ref G.2.2.2.2.2.2.2, .int 0])), (h_9, .inr (14, [.int p0, .int 0, .int 0]))] [(md, .inr (16, [.int 0, .ref ha, .long 0])), (ha, .inr (12, [.ref l0, .ref v0, .ref v1, .ref l1, .ref l2, .ref l3, .int 0, .int 0, .int 0]))] [2, 3] [0, 1] := ⟨rfl, rfl, by decide, by decide, by decide⟩
    refine sx_ki (sx_runV (As := [.ref h_9]) (rest := []) F (m_add_X12 l G H.size l2 h_9 p0 0 0) mi_Jx4a65c_add_9ea2d q984 qs_Jx4a65c_add_9ea2d q983 ⟨⟨Nat.le_of_ble_eq_true rfl, Nat.le_of_ble_eq_true rfl⟩, Nat.le_of_ble_eq_true rfl, Nat.le_of_ble_eq_true rfl⟩ hcut hP hD hS 2 1 rfl rfl rfl hl.1 rfl (Nat.le_of_ble_eq_true rfl) dX14_team_62) hcut hP hD hS hA (fun r_15 u_13 H locs w_14 hP hD hS => ?_)
    have hP : va_P (sx_D G) vwCl [(md, .inr (16, [.int 0, .ref ha, .long 0])), (ha, .inr (12, [.ref l0, .ref v0, .ref v1, .ref l1, .ref l2, .ref l3, .int 0, .int 0, .int 0])), (l2, .inr (1, [.int 1, .ref u_13, .int 1]))] H := hP
    have hD : va_D A [(md, .inr (16, [.int 0, .ref ha, .long 0])), (ha, .inr (12, [.ref l0, .ref v0, .ref v1, .ref l1, .ref l2, .ref l3, .int 0, .int 0, .int 0])), (l2, .inr (1, [.int 1, .ref u_13, .int 1]))] := hD
    have er_15 : r_15 = 1 := w_14
    subst er_15
    refine lv_pop hx hb dX14_team_65 rfl ?_
    refine lv_aload_n hx hb dX14_team_66 rfl (lv_at hl 1 rfl) ?_
    refine va_get (D := sx_D G) (ci := 16) (v := .ref ha) (C := RX14) (T := TX14) (N := 3) hx hb hts inX14 hown hK hP 0 rfl rfl 1 (by decide) (hts _ q909) (fun _ h9 => h9) rfl dX14_team_67 ?_
    refine va_getN (D := sx_D G) (ci := 12) (v := .ref l2) (C := RX10) (T := TX10) (N := 9) hx hb hts inX10 hown hK hP 1 rfl rfl 4 (by decide) (hts _ q880) (fun _ h9 => h9) rfl dX14_team_70 ?_
    have hcut : sx_cut [(md, .inr (16, [.int 0, .ref ha, .long 0])), (ha, .inr (12, [.ref l0, .ref v0, .ref v1, .ref l1, .ref l2, .ref l3, .int 0, .int 0, .int 0])), (l2, .inr (1, [.int 1, .ref u_13, .int 1]))] [(l2, .inr (1, [.int 1, .ref u_13, .int 1]))] [(md, .inr (16, [.int 0, .ref ha, .long 0])), (ha, .inr (12, [.ref l0, .ref v0, .ref v1, .ref l1, .ref l2, .ref l3, .int 0, .int 0, .int 0]))] [2] [0, 1] := ⟨rfl, rfl, by decide, by decide, by decide⟩
    refine sx_ki (sx_runV (As := []) (rest := []) F (m_Jx4a65c_size_8abf5 l G H.size l2 u_13 1 1) mi_Jx4a65c_size_8abf5 q927 qs_Jx4a65c_size_8abf5 q926 ⟨⟨Nat.le_of_ble_eq_true rfl, Nat.le_of_ble_eq_true rfl⟩, Nat.le_of_ble_eq_true rfl, Nat.le_of_ble_eq_true rfl⟩ hcut hP hD hS 2 1 rfl rfl rfl hl.1 rfl (Nat.le_of_ble_eq_true rfl) dX14_team_73) hcut hP hD hS hA (fun r_18 u_16 H locs w_17 hP hD hS => ?_)
    have hP : va_P (sx_D G) vwCl [(md, .inr (16, [.int 0, .ref ha, .long 0])), (ha, .inr (12, [.ref l0, .ref v0, .ref v1, .ref l1, .ref l2, .ref l3, .int 0, .int 0, .int 0])), (l2, .inr (1, [.int 1, .ref u_13, .int 1]))] H := hP
    have hD : va_D A [(md, .inr (16, [.int 0, .ref ha, .long 0])), (ha, .inr (12, [.ref l0, .ref v0, .ref v1, .ref l1, .ref l2, .ref l3, .int 0, .int 0, .int 0])), (l2, .inr (1, [.int 1, .ref u_13, .int 1]))] := hD
    have er_18 : r_18 = 1 := w_17
    subst er_18
    refine lv_iconst (v := 1) hx hb dX14_team_76 (by decide) ?_
    refine lv_isub hx hb dX14_team_77 ?_
    refine lv_topi (fun x_19 ex_19 => ?_)
    have ex_19 : x_19 = (0 : Int32) := ex_19.trans (by decide)
    subst ex_19
    have hP := hP.sub (ws' := [(md, .inr (16, [.int 0, .ref ha, .long 0]))]) [0] rfl
    have hD := hD.sub (ws' := [(md, .inr (16, [.int 0, .ref ha, .long 0]))]) [0] (by decide) rfl
    exact (sx_iret (v := 0) (0 : Int32) hx hb hr rfl hlk hP hD hS ⟨(z1_0 (zb_t w_2 c_4)).symm, fun _ => rfl⟩ dX14_team_78 rfl rfl)
  · refine lv_aload_n hx hb dX14_team_15 rfl (lv_at hl 0 rfl) ?_
    refine lv_iconst (v := 1) hx hb dX14_team_16 (by decide) ?_
    have hcut : sx_cut [(md, .inr (16, [.int 0, .ref ha, .long 0])), (ha, .inr (12, [.ref l0, .ref v0, .ref v1, .ref l1, .ref l2, .ref l3, .int 0, .int 0, .int 0])), (l2, .inr (1, [.int 0, .ref G.2.2.2.2.2.2.2, .int 0]))] [(md, .inr (16, [.int 0, .ref ha, .long 0]))] [(ha, .inr (12, [.ref l0, .ref v0, .ref v1, .ref l1, .ref l2, .ref l3, .int 0, .int 0, .int 0])), (l2, .inr (1, [.int 0, .ref G.2.2.2.2.2.2.2, .int 0]))] [0] [1, 2] := ⟨rfl, rfl, by decide, by decide, by decide⟩
    refine sx_ki (sx_runV (As := [.int 1]) (rest := []) F (m_X14_refuse l G H.size md ha 0 1 0) mi_X14_refuse q935 qs_X14_refuse q933 ⟨⟨Nat.le_of_ble_eq_true rfl, Nat.le_of_ble_eq_true rfl⟩, Nat.le_of_ble_eq_true rfl, Nat.le_of_ble_eq_true rfl⟩ hcut hP hD hS 0 16 rfl rfl rfl hl.1 rfl (Nat.le_of_ble_eq_true rfl) dX14_team_17) hcut hP hD hS hA (fun r_22 u_20 H locs w_21 hP hD hS => ?_)
    have hP : va_P (sx_D G) vwCl [(ha, .inr (12, [.ref l0, .ref v0, .ref v1, .ref l1, .ref l2, .ref l3, .int 0, .int 0, .int 0])), (l2, .inr (1, [.int 0, .ref G.2.2.2.2.2.2.2, .int 0])), (md, .inr (16, [.int 1, .ref ha, .long 0]))] H := hP
    have hD : va_D A [(ha, .inr (12, [.ref l0, .ref v0, .ref v1, .ref l1, .ref l2, .ref l3, .int 0, .int 0, .int 0])), (l2, .inr (1, [.int 0, .ref G.2.2.2.2.2.2.2, .int 0])), (md, .inr (16, [.int 1, .ref ha, .long 0]))] := hD
    have er_22 : r_22 = 0 := w_21
    subst er_22
    have hP := hP.sub (ws' := [(md, .inr (16, [.int 1, .ref ha, .long 0]))]) [2] rfl
    have hD := hD.sub (ws' := [(md, .inr (16, [.int 1, .ref ha, .long 0]))]) [2] (by decide) rfl
    exact (sx_iret (v := 0) (1 : Int32) hx hb hr rfl hlk hP hD hS ⟨(z1_1 (zb_f w_2 c_4)).symm, fun _ => rfl⟩ dX14_team_20 rfl rfl)
set_option maxHeartbeats 4000000 in
set_option maxRecDepth 100000 in
theorem m_X14_check (l : Launch) (G : sx_G) (sz : Nat) (md : Nat) (ha : Nat) (l0 : Nat) (v0 : Nat) (v1 : Nat) (l1 : Nat) (l2 : Nat) (l3 : Nat) (p0 : Int32) : sx_Met l yX14_check cX14_check 3 (some .int) 1 22 0 0 G [.ref md, .int p0] [(md, .inr (16, [.int 0, .ref ha, .long 0])), (ha, .inr (12, [.ref l0, .ref v0, .ref v1, .ref l1, .ref l2, .ref l3, .int 0, .int 0, .int 0]))] sz (sx_Qi G (fun (r : Int32) (u : Int32) => u = z1 (zw 0 9 p0) ∧ (u = 0 → r = 0)) (fun (u : Int32) => [(md, .inr (16, [.int u, .ref ha, .long 0]))])) := by
  refine sx_start (by decide) rfl (fun p e s m below meth c A ls F hr hlk hnm hP hD hS hl => ?_)
  obtain ⟨hx, hb, hml, hown, hts, hK, hE, hA⟩ := id F
  have hown : s.vm.findClass RX14 = some m.cls := hown
  generalize hHe : s.heap = H at hP
  have hS : va_S A s.heap H [] := by rw [← hHe]; exact va_S.rf
  have hl : lv_has ls 3 [(0, .ref md), (1, .int p0)] := hl
  refine lv_aload_n hx hb dX14_check_0 rfl (lv_at hl 0 rfl) ?_
  refine lv_iconst (v := 0) hx hb dX14_check_1 (by decide) ?_
  refine va_put (D := sx_D G) (ci := 16) (v := .int 0) (ty := tyX14 0) (C := RX14) (T := TX14) (N := 3) hx hb hts inX14 tyX14 tyX14_ok nmX14 hown hK hP hD hS 0 rfl rfl 0 (by decide) (hts _ q908) (fun _ h9 => h9) rfl (by decide +kernel) rfl rfl (Nat.le_of_ble_eq_true rfl) dX14_check_2 (fun H locs hP hD hS => ?_)
  have hP : va_P (sx_D G) vwCl [(md, .inr (16, [.int 0, .ref ha, .long 0])), (ha, .inr (12, [.ref l0, .ref v0, .ref v1, .ref l1, .ref l2, .ref l3, .int 0, .int 0, .int 0]))] H := hP
  have hD : va_D A [(md, .inr (16, [.int 0, .ref ha, .long 0])), (ha, .inr (12, [.ref l0, .ref v0, .ref v1, .ref l1, .ref l2, .ref l3, .int 0, .int 0, .int 0]))] := hD
  refine lv_iload_n hx hb dX14_check_5 rfl (lv_at hl 1 rfl) ?_
  refine lv_iconst (v := 0) hx hb dX14_check_6 (by decide) ?_
  refine lv_bipush (v := 9) hx hb dX14_check_7 (by decide) ?_
  have hcut : sx_cut [(md, .inr (16, [.int 0, .ref ha, .long 0])), (ha, .inr (12, [.ref l0, .ref v0, .ref v1, .ref l1, .ref l2, .ref l3, .int 0, .int 0, .int 0]))] [] [(md, .inr (16, [.int 0, .ref ha, .long 0])), (ha, .inr (12, [.ref l0, .ref v0, .ref v1, .ref l1, .ref l2, .ref l3, .int 0, .int 0, .int 0]))] [] [0, 1] := ⟨rfl, rfl, by decide, by decide, by decide⟩
  refine sx_ki (sx_runS (As := [.int p0, .int 0, .int 9]) (rest := []) F (m_X14_is l G H.size p0 0 9) mi_X14_is q931 q930 ⟨⟨Nat.le_of_ble_eq_true rfl, Nat.le_of_ble_eq_true rfl⟩, Nat.le_of_ble_eq_true rfl, Nat.le_of_ble_eq_true rfl⟩ hcut hP hD hS rfl hl.1 rfl (Nat.le_of_ble_eq_true rfl) dX14_check_9) hcut hP hD hS hA (fun r_3 u_1 H locs w_2 hP hD hS => ?_)
  have hP : va_P (sx_D G) vwCl [(md, .inr (16, [.int 0, .ref ha, .long 0])), (ha, .inr (12, [.ref l0, .ref v0, .ref v1, .ref l1, .ref l2, .ref l3, .int 0, .int 0, .int 0]))] H := hP
  have hD : va_D A [(md, .inr (16, [.int 0, .ref ha, .long 0])), (ha, .inr (12, [.ref l0, .ref v0, .ref v1, .ref l1, .ref l2, .ref l3, .int 0, .int 0, .int 0]))] := hD
  have w_2 : r_3 = zb (zw 0 9 p0) := w_2
  refine lv_if_ne (tgt := 21) hx hb dX14_check_12 (by decide) (fun c_4 => ?_) (fun c_4 => ?_)
  · refine lv_aload_n hx hb dX14_check_21 rfl (lv_at hl 0 rfl) ?_
    refine va_get (D := sx_D G) (ci := 16) (v := .ref ha) (C := RX14) (T := TX14) (N := 3) hx hb hts inX14 hown hK hP 0 rfl rfl 1 (by decide) (hts _ q909) (fun _ h9 => h9) rfl dX14_check_22 ?_
    refine va_getN (D := sx_D G) (ci := 12) (v := .int 0) (C := RX10) (T := TX10) (N := 9) hx hb hts inX10 hown hK hP 1 rfl rfl 6 (by decide) (hts _ q884) (fun _ h9 => h9) rfl dX14_check_25 ?_
    refine lv_istore_n (lv' := [(2, .int 0), (0, .ref md), (1, .int p0)]) hx hb dX14_check_28 rfl hl (by decide) rfl (fun ls hl => ?_)
    refine lv_aload_n hx hb dX14_check_29 rfl (lv_at hl 1 rfl) ?_
    refine va_get (D := sx_D G) (ci := 16) (v := .ref ha) (C := RX14) (T := TX14) (N := 3) hx hb hts inX14 hown hK hP 0 rfl rfl 1 (by decide) (hts _ q909) (fun _ h9 => h9) rfl dX14_check_30 ?_
    refine lv_iload_n hx hb dX14_check_33 rfl (lv_at hl 2 rfl) ?_
    refine va_putN (D := sx_D G) (ci := 12) (v := .int p0) (ty := tyX10 6) (C := RX10) (T := TX10) (N := 9) hx hb hts inX10 tyX10 tyX10_ok nmX10 hown hK hP hD hS 1 rfl rfl 6 (by decide) (hts _ q884) (fun _ h9 => h9) rfl (by decide +kernel) rfl rfl (Nat.le_of_ble_eq_true rfl) dX14_check_34 (fun H locs hP hD hS => ?_)
    have hP : va_P (sx_D G) vwCl [(md, .inr (16, [.int 0, .ref ha, .long 0])), (ha, .inr (12, [.ref l0, .ref v0, .ref v1, .ref l1, .ref l2, .ref l3, .int p0, .int 0, .int 0]))] H := hP
    have hD : va_D A [(md, .inr (16, [.int 0, .ref ha, .long 0])), (ha, .inr (12, [.ref l0, .ref v0, .ref v1, .ref l1, .ref l2, .ref l3, .int p0, .int 0, .int 0]))] := hD
    refine lv_iload_n hx hb dX14_check_37 rfl (lv_at hl 0 rfl) ?_
    have hP := hP.sub (ws' := [(md, .inr (16, [.int 0, .ref ha, .long 0]))]) [0] rfl
    have hD := hD.sub (ws' := [(md, .inr (16, [.int 0, .ref ha, .long 0]))]) [0] (by decide) rfl
    exact (sx_iret (v := 0) (0 : Int32) hx hb hr rfl hlk hP hD hS ⟨(z1_0 (zb_t w_2 c_4)).symm, fun _ => rfl⟩ dX14_check_38 rfl rfl)
  · refine lv_aload_n hx hb dX14_check_15 rfl (lv_at hl 0 rfl) ?_
    refine lv_iconst (v := 1) hx hb dX14_check_16 (by decide) ?_
    have hcut : sx_cut [(md, .inr (16, [.int 0, .ref ha, .long 0])), (ha, .inr (12, [.ref l0, .ref v0, .ref v1, .ref l1, .ref l2, .ref l3, .int 0, .int 0, .int 0]))] [(md, .inr (16, [.int 0, .ref ha, .long 0]))] [(ha, .inr (12, [.ref l0, .ref v0, .ref v1, .ref l1, .ref l2, .ref l3, .int 0, .int 0, .int 0]))] [0] [1] := ⟨rfl, rfl, by decide, by decide, by decide⟩
    refine sx_ki (sx_runV (As := [.int 1]) (rest := []) F (m_X14_refuse l G H.size md ha 0 1 0) mi_X14_refuse q935 qs_X14_refuse q933 ⟨⟨Nat.le_of_ble_eq_true rfl, Nat.le_of_ble_eq_true rfl⟩, Nat.le_of_ble_eq_true rfl, Nat.le_of_ble_eq_true rfl⟩ hcut hP hD hS 0 16 rfl rfl rfl hl.1 rfl (Nat.le_of_ble_eq_true rfl) dX14_check_17) hcut hP hD hS hA (fun r_7 u_5 H locs w_6 hP hD hS => ?_)
    have hP : va_P (sx_D G) vwCl [(ha, .inr (12, [.ref l0, .ref v0, .ref v1, .ref l1, .ref l2, .ref l3, .int 0, .int 0, .int 0])), (md, .inr (16, [.int 1, .ref ha, .long 0]))] H := hP
    have hD : va_D A [(ha, .inr (12, [.ref l0, .ref v0, .ref v1, .ref l1, .ref l2, .ref l3, .int 0, .int 0, .int 0])), (md, .inr (16, [.int 1, .ref ha, .long 0]))] := hD
    have er_7 : r_7 = 0 := w_6
    subst er_7
    have hP := hP.sub (ws' := [(md, .inr (16, [.int 1, .ref ha, .long 0]))]) [1] rfl
    have hD := hD.sub (ws' := [(md, .inr (16, [.int 1, .ref ha, .long 0]))]) [1] (by decide) rfl
    exact (sx_iret (v := 0) (1 : Int32) hx hb hr rfl hlk hP hD hS ⟨(z1_1 (zb_f w_2 c_4)).symm, fun _ => rfl⟩ dX14_check_20 rfl rfl)
set_option maxHeartbeats 4000000 in
set_option maxRecDepth 100000 in
theorem m_X14_action (l : Launch) (G : sx_G) (sz : Nat) (md : Nat) (ha : Nat) (l0 : Nat) (v0 : Nat) (v1 : Nat) (l1 : Nat) (l2 : Nat) (l3 : Nat) (p0 : Int32) (p1 : Int32) (p2 : Int32) (p3 : Int32) (p4 : Int32) (p5 : Int32) : sx_Met l yX14_action cX14_action 8 (some .int) 5 101 2 17 G [.ref md, .int p0, .int p1, .int p2, .int p3, .int p4, .int p5] [(md, .inr (16, [.int 0, .ref ha, .long 0])), (ha, .inr (12, [.ref l0, .ref v0, .ref v1, .ref l1, .ref l2, .ref l3, .int 0, .int 0, .int 0])), (l0, .inr (1, [.int 0, .ref G.2.2.2.2.2.2.2, .int 0]))] sz (sx_Qi G (fun (r : Int32) (u : Int32) => u = z_action p0 p1 p2 p3 p4 p5 ∧ (u = 0 → r = 0)) (fun (u : Int32) => [(md, .inr (16, [.int u, .ref ha, .long 0]))])) := by
  refine sx_start (by decide) rfl (fun p e s m below meth c A ls F hr hlk hnm hP hD hS hl => ?_)
  obtain ⟨hx, hb, hml, hown, hts, hK, hE, hA⟩ := id F
  have hown : s.vm.findClass RX14 = some m.cls := hown
  generalize hHe : s.heap = H at hP
  have hS : va_S A s.heap H [] := by rw [← hHe]; exact va_S.rf
  have hl : lv_has ls 8 [(0, .ref md), (1, .int p0), (2, .int p1), (3, .int p2), (4, .int p3), (5, .int p4), (6, .int p5)] := hl
  refine lv_aload_n hx hb dX14_action_0 rfl (lv_at hl 0 rfl) ?_
  refine lv_iconst (v := 0) hx hb dX14_action_1 (by decide) ?_
  refine va_put (D := sx_D G) (ci := 16) (v := .int 0) (ty := tyX14 0) (C := RX14) (T := TX14) (N := 3) hx hb hts inX14 tyX14 tyX14_ok nmX14 hown hK hP hD hS 0 rfl rfl 0 (by decide) (hts _ q908) (fun _ h9 => h9) rfl (by decide +kernel) rfl rfl (Nat.le_of_ble_eq_true rfl) dX14_action_2 (fun H locs hP hD hS => ?_)
  have hP : va_P (sx_D G) vwCl [(md, .inr (16, [.int 0, .ref ha, .long 0])), (ha, .inr (12, [.ref l0, .ref v0, .ref v1, .ref l1, .ref l2, .ref l3, .int 0, .int 0, .int 0])), (l0, .inr (1, [.int 0, .ref G.2.2.2.2.2.2.2, .int 0]))] H := hP
  have hD : va_D A [(md, .inr (16, [.int 0, .ref ha, .long 0])), (ha, .inr (12, [.ref l0, .ref v0, .ref v1, .ref l1, .ref l2, .ref l3, .int 0, .int 0, .int 0])), (l0, .inr (1, [.int 0, .ref G.2.2.2.2.2.2.2, .int 0]))] := hD
  refine lv_aload_n hx hb dX14_action_5 rfl (lv_at hl 0 rfl) ?_
  refine va_get (D := sx_D G) (ci := 16) (v := .ref ha) (C := RX14) (T := TX14) (N := 3) hx hb hts inX14 hown hK hP 0 rfl rfl 1 (by decide) (hts _ q909) (fun _ h9 => h9) rfl dX14_action_6 ?_
  refine va_getN (D := sx_D G) (ci := 12) (v := .ref l0) (C := RX10) (T := TX10) (N := 9) hx hb hts inX10 hown hK hP 1 rfl rfl 0 (by decide) (hts _ q872) (fun _ h9 => h9) rfl dX14_action_9 ?_
  have hcut : sx_cut [(md, .inr (16, [.int 0, .ref ha, .long 0])), (ha, .inr (12, [.ref l0, .ref v0, .ref v1, .ref l1, .ref l2, .ref l3, .int 0, .int 0, .int 0])), (l0, .inr (1, [.int 0, .ref G.2.2.2.2.2.2.2, .int 0]))] [(l0, .inr (1, [.int 0, .ref G.2.2.2.2.2.2.2, .int 0]))] [(md, .inr (16, [.int 0, .ref ha, .long 0])), (ha, .inr (12, [.ref l0, .ref v0, .ref v1, .ref l1, .ref l2, .ref l3, .int 0, .int 0, .int 0]))] [2] [0, 1] := ⟨rfl, rfl, by decide, by decide, by decide⟩
  refine sx_ki (sx_runV (As := []) (rest := []) F (m_Jx4a65c_size_8abf5 l G H.size l0 G.2.2.2.2.2.2.2 0 0) mi_Jx4a65c_size_8abf5 q927 qs_Jx4a65c_size_8abf5 q926 ⟨⟨Nat.le_of_ble_eq_true rfl, Nat.le_of_ble_eq_true rfl⟩, Nat.le_of_ble_eq_true rfl, Nat.le_of_ble_eq_true rfl⟩ hcut hP hD hS 2 1 rfl rfl rfl hl.1 rfl (Nat.le_of_ble_eq_true rfl) dX14_action_12) hcut hP hD hS hA (fun r_3 u_1 H locs w_2 hP hD hS => ?_)
  have hP : va_P (sx_D G) vwCl [(md, .inr (16, [.int 0, .ref ha, .long 0])), (ha, .inr (12, [.ref l0, .ref v0, .ref v1, .ref l1, .ref l2, .ref l3, .int 0, .int 0, .int 0])), (l0, .inr (1, [.int 0, .ref G.2.2.2.2.2.2.2, .int 0]))] H := hP
  have hD : va_D A [(md, .inr (16, [.int 0, .ref ha, .long 0])), (ha, .inr (12, [.ref l0, .ref v0, .ref v1, .ref l1, .ref l2, .ref l3, .int 0, .int 0, .int 0])), (l0, .inr (1, [.int 0, .ref G.2.2.2.2.2.2.2, .int 0]))] := hD
  have er_3 : r_3 = 0 := w_2
  subst er_3
  refine lv_istore (lv' := [(7, .int 0), (0, .ref md), (1, .int p0), (2, .int p1), (3, .int p2), (4, .int p3), (5, .int p4), (6, .int p5)]) hx hb dX14_action_15 hl (by decide) rfl (fun ls hl => ?_)
  refine lv_iload_n hx hb dX14_action_17 rfl (lv_at hl 2 rfl) ?_
  refine lv_iconst (v := 0) hx hb dX14_action_18 (by decide) ?_
  refine lv_sipush (v := 255) hx hb dX14_action_19 (by decide) ?_
  have hcut : sx_cut [(md, .inr (16, [.int 0, .ref ha, .long 0])), (ha, .inr (12, [.ref l0, .ref v0, .ref v1, .ref l1, .ref l2, .ref l3, .int 0, .int 0, .int 0])), (l0, .inr (1, [.int 0, .ref G.2.2.2.2.2.2.2, .int 0]))] [] [(md, .inr (16, [.int 0, .ref ha, .long 0])), (ha, .inr (12, [.ref l0, .ref v0, .ref v1, .ref l1, .ref l2, .ref l3, .int 0, .int 0, .int 0])), (l0, .inr (1, [.int 0, .ref G.2.2.2.2.2.2.2, .int 0]))] [] [0, 1, 2] := ⟨rfl, rfl, by decide, by decide, by decide⟩
  refine sx_ki (sx_runS (As := [.int p0, .int 0, .int 255]) (rest := []) F (m_X14_is l G H.size p0 0 255) mi_X14_is q931 q930 ⟨⟨Nat.le_of_ble_eq_true rfl, Nat.le_of_ble_eq_true rfl⟩, Nat.le_of_ble_eq_true rfl, Nat.le_of_ble_eq_true rfl⟩ hcut hP hD hS rfl hl.1 rfl (Nat.le_of_ble_eq_true rfl) dX14_action_22) hcut hP hD hS hA (fun r_6 u_4 H locs w_5 hP hD hS => ?_)
  have hP : va_P (sx_D G) vwCl [(md, .inr (16, [.int 0, .ref ha, .long 0])), (ha, .inr (12, [.ref l0, .ref v0, .ref v1, .ref l1, .ref l2, .ref l3, .int 0, .int 0, .int 0])), (l0, .inr (1, [.int 0, .ref G.2.2.2.2.2.2.2, .int 0]))] H := hP
  have hD : va_D A [(md, .inr (16, [.int 0, .ref ha, .long 0])), (ha, .inr (12, [.ref l0, .ref v0, .ref v1, .ref l1, .ref l2, .ref l3, .int 0, .int 0, .int 0])), (l0, .inr (1, [.int 0, .ref G.2.2.2.2.2.2.2, .int 0]))] := hD
  have w_5 : r_6 = zb (zw 0 255 p0) := w_5
  refine lv_if_eq (tgt := 88) hx hb dX14_action_25 (by decide) (fun c_7 => ?_) (fun c_7 => ?_)
  · refine lv_aload_n hx hb dX14_action_88 rfl (lv_at hl 1 rfl) ?_
    refine lv_iconst (v := 1) hx hb dX14_action_89 (by decide) ?_
    have hcut : sx_cut [(md, .inr (16, [.int 0, .ref ha, .long 0])), (ha, .inr (12, [.ref l0, .ref v0, .ref v1, .ref l1, .ref l2, .ref l3, .int 0, .int 0, .int 0])), (l0, .inr (1, [.int 0, .ref G.2.2.2.2.2.2.2, .int 0]))] [(md, .inr (16, [.int 0, .ref ha, .long 0]))] [(ha, .inr (12, [.ref l0, .ref v0, .ref v1, .ref l1, .ref l2, .ref l3, .int 0, .int 0, .int 0])), (l0, .inr (1, [.int 0, .ref G.2.2.2.2.2.2.2, .int 0]))] [0] [1, 2] := ⟨rfl, rfl, by decide, by decide, by decide⟩
    refine sx_ki (sx_runV (As := [.int 1]) (rest := []) F (m_X14_refuse l G H.size md ha 0 1 0) mi_X14_refuse q935 qs_X14_refuse q933 ⟨⟨Nat.le_of_ble_eq_true rfl, Nat.le_of_ble_eq_true rfl⟩, Nat.le_of_ble_eq_true rfl, Nat.le_of_ble_eq_true rfl⟩ hcut hP hD hS 0 16 rfl rfl rfl hl.1 rfl (Nat.le_of_ble_eq_true rfl) dX14_action_90) hcut hP hD hS hA (fun r_10 u_8 H locs w_9 hP hD hS => ?_)
    have hP : va_P (sx_D G) vwCl [(ha, .inr (12, [.ref l0, .ref v0, .ref v1, .ref l1, .ref l2, .ref l3, .int 0, .int 0, .int 0])), (l0, .inr (1, [.int 0, .ref G.2.2.2.2.2.2.2, .int 0])), (md, .inr (16, [.int 1, .ref ha, .long 0]))] H := hP
    have hD : va_D A [(ha, .inr (12, [.ref l0, .ref v0, .ref v1, .ref l1, .ref l2, .ref l3, .int 0, .int 0, .int 0])), (l0, .inr (1, [.int 0, .ref G.2.2.2.2.2.2.2, .int 0])), (md, .inr (16, [.int 1, .ref ha, .long 0]))] := hD
    have er_10 : r_10 = 0 := w_9
    subst er_10
    have hP := hP.sub (ws' := [(md, .inr (16, [.int 1, .ref ha, .long 0]))]) [2] rfl
    have hD := hD.sub (ws' := [(md, .inr (16, [.int 1, .ref ha, .long 0]))]) [2] (by decide) rfl
    exact (sx_iret (v := 0) (1 : Int32) hx hb hr rfl hlk hP hD hS ⟨((z1_1 (z_n1 (zb_f w_5 c_7))).symm), fun _ => rfl⟩ dX14_action_93 rfl rfl)
  · refine lv_iload_n hx hb dX14_action_28 rfl (lv_at hl 3 rfl) ?_
    refine lv_iconst (v := 0) hx hb dX14_action_29 (by decide) ?_
    refine lv_iconst (v := 1) hx hb dX14_action_30 (by decide) ?_
    refine lv_iload hx hb dX14_action_31 (lv_at hl 0 rfl) ?_
    refine lv_ishl hx hb dX14_action_33 ?_
    refine lv_topi (fun x_11 ex_11 => ?_)
    have ex_11 : x_11 = (1 : Int32) := ex_11.trans (by decide)
    subst ex_11
    refine lv_iconst (v := 1) hx hb dX14_action_34 (by decide) ?_
    refine lv_isub hx hb dX14_action_35 ?_
    refine lv_topi (fun x_12 ex_12 => ?_)
    have ex_12 : x_12 = (0 : Int32) := ex_12.trans (by decide)
    subst ex_12
    have hcut : sx_cut [(md, .inr (16, [.int 0, .ref ha, .long 0])), (ha, .inr (12, [.ref l0, .ref v0, .ref v1, .ref l1, .ref l2, .ref l3, .int 0, .int 0, .int 0])), (l0, .inr (1, [.int 0, .ref G.2.2.2.2.2.2.2, .int 0]))] [] [(md, .inr (16, [.int 0, .ref ha, .long 0])), (ha, .inr (12, [.ref l0, .ref v0, .ref v1, .ref l1, .ref l2, .ref l3, .int 0, .int 0, .int 0])), (l0, .inr (1, [.int 0, .ref G.2.2.2.2.2.2.2, .int 0]))] [] [0, 1, 2] := ⟨rfl, rfl, by decide, by decide, by decide⟩
    refine sx_ki (sx_runS (As := [.int p1, .int 0, .int 0]) (rest := []) F (m_X14_is l G H.size p1 0 0) mi_X14_is q931 q930 ⟨⟨Nat.le_of_ble_eq_true rfl, Nat.le_of_ble_eq_true rfl⟩, Nat.le_of_ble_eq_true rfl, Nat.le_of_ble_eq_true rfl⟩ hcut hP hD hS rfl hl.1 rfl (Nat.le_of_ble_eq_true rfl) dX14_action_36) hcut hP hD hS hA (fun r_15 u_13 H locs w_14 hP hD hS => ?_)
    have hP : va_P (sx_D G) vwCl [(md, .inr (16, [.int 0, .ref ha, .long 0])), (ha, .inr (12, [.ref l0, .ref v0, .ref v1, .ref l1, .ref l2, .ref l3, .int 0, .int 0, .int 0])), (l0, .inr (1, [.int 0, .ref G.2.2.2.2.2.2.2, .int 0]))] H := hP
    have hD : va_D A [(md, .inr (16, [.int 0, .ref ha, .long 0])), (ha, .inr (12, [.ref l0, .ref v0, .ref v1, .ref l1, .ref l2, .ref l3, .int 0, .int 0, .int 0])), (l0, .inr (1, [.int 0, .ref G.2.2.2.2.2.2.2, .int 0]))] := hD
    have w_14 : r_15 = zb (zw 0 0 p1) := w_14
    refine lv_if_eq (tgt := 88) hx hb dX14_action_39 (by decide) (fun c_16 => ?_) (fun c_16 => ?_)
    · refine lv_aload_n hx hb dX14_action_88 rfl (lv_at hl 1 rfl) ?_
      refine lv_iconst (v := 1) hx hb dX14_action_89 (by decide) ?_
      have hcut : sx_cut [(md, .inr (16, [.int 0, .ref ha, .long 0])), (ha, .inr (12, [.ref l0, .ref v0, .ref v1, .ref l1, .ref l2, .ref l3, .int 0, .int 0, .int 0])), (l0, .inr (1, [.int 0, .ref G.2.2.2.2.2.2.2, .int 0]))] [(md, .inr (16, [.int 0, .ref ha, .long 0]))] [(ha, .inr (12, [.ref l0, .ref v0, .ref v1, .ref l1, .ref l2, .ref l3, .int 0, .int 0, .int 0])), (l0, .inr (1, [.int 0, .ref G.2.2.2.2.2.2.2, .int 0]))] [0] [1, 2] := ⟨rfl, rfl, by decide, by decide, by decide⟩
      refine sx_ki (sx_runV (As := [.int 1]) (rest := []) F (m_X14_refuse l G H.size md ha 0 1 0) mi_X14_refuse q935 qs_X14_refuse q933 ⟨⟨Nat.le_of_ble_eq_true rfl, Nat.le_of_ble_eq_true rfl⟩, Nat.le_of_ble_eq_true rfl, Nat.le_of_ble_eq_true rfl⟩ hcut hP hD hS 0 16 rfl rfl rfl hl.1 rfl (Nat.le_of_ble_eq_true rfl) dX14_action_90) hcut hP hD hS hA (fun r_19 u_17 H locs w_18 hP hD hS => ?_)
      have hP : va_P (sx_D G) vwCl [(ha, .inr (12, [.ref l0, .ref v0, .ref v1, .ref l1, .ref l2, .ref l3, .int 0, .int 0, .int 0])), (l0, .inr (1, [.int 0, .ref G.2.2.2.2.2.2.2, .int 0])), (md, .inr (16, [.int 1, .ref ha, .long 0]))] H := hP
      have hD : va_D A [(ha, .inr (12, [.ref l0, .ref v0, .ref v1, .ref l1, .ref l2, .ref l3, .int 0, .int 0, .int 0])), (l0, .inr (1, [.int 0, .ref G.2.2.2.2.2.2.2, .int 0])), (md, .inr (16, [.int 1, .ref ha, .long 0]))] := hD
      have er_19 : r_19 = 0 := w_18
      subst er_19
      have hP := hP.sub (ws' := [(md, .inr (16, [.int 1, .ref ha, .long 0]))]) [2] rfl
      have hD := hD.sub (ws' := [(md, .inr (16, [.int 1, .ref ha, .long 0]))]) [2] (by decide) rfl
      exact (sx_iret (v := 0) (1 : Int32) hx hb hr rfl hlk hP hD hS ⟨((z1_1 (z_n2 (z_n1 ((z_and0 _).trans (zb_f w_14 c_16))))).symm), fun _ => rfl⟩ dX14_action_93 rfl rfl)
    · refine lv_iload_n hx hb dX14_action_42 rfl (lv_at hl 4 rfl) ?_
      refine lv_iconst (v := 0) hx hb dX14_action_43 (by decide) ?_
      refine lv_bipush (v := 63) hx hb dX14_action_44 (by decide) ?_
      have hcut : sx_cut [(md, .inr (16, [.int 0, .ref ha, .long 0])), (ha, .inr (12, [.ref l0, .ref v0, .ref v1, .ref l1, .ref l2, .ref l3, .int 0, .int 0, .int 0])), (l0, .inr (1, [.int 0, .ref G.2.2.2.2.2.2.2, .int 0]))] [] [(md, .inr (16, [.int 0, .ref ha, .long 0])), (ha, .inr (12, [.ref l0, .ref v0, .ref v1, .ref l1, .ref l2, .ref l3, .int 0, .int 0, .int 0])), (l0, .inr (1, [.int 0, .ref G.2.2.2.2.2.2.2, .int 0]))] [] [0, 1, 2] := ⟨rfl, rfl, by decide, by decide, by decide⟩
      refine sx_ki (sx_runS (As := [.int p2, .int 0, .int 63]) (rest := []) F (m_X14_is l G H.size p2 0 63) mi_X14_is q931 q930 ⟨⟨Nat.le_of_ble_eq_true rfl, Nat.le_of_ble_eq_true rfl⟩, Nat.le_of_ble_eq_true rfl, Nat.le_of_ble_eq_true rfl⟩ hcut hP hD hS rfl hl.1 rfl (Nat.le_of_ble_eq_true rfl) dX14_action_46) hcut hP hD hS hA (fun r_22 u_20 H locs w_21 hP hD hS => ?_)
      have hP : va_P (sx_D G) vwCl [(md, .inr (16, [.int 0, .ref ha, .long 0])), (ha, .inr (12, [.ref l0, .ref v0, .ref v1, .ref l1, .ref l2, .ref l3, .int 0, .int 0, .int 0])), (l0, .inr (1, [.int 0, .ref G.2.2.2.2.2.2.2, .int 0]))] H := hP
      have hD : va_D A [(md, .inr (16, [.int 0, .ref ha, .long 0])), (ha, .inr (12, [.ref l0, .ref v0, .ref v1, .ref l1, .ref l2, .ref l3, .int 0, .int 0, .int 0])), (l0, .inr (1, [.int 0, .ref G.2.2.2.2.2.2.2, .int 0]))] := hD
      have w_21 : r_22 = zb (zw 0 63 p2) := w_21
      refine lv_if_eq (tgt := 88) hx hb dX14_action_49 (by decide) (fun c_23 => ?_) (fun c_23 => ?_)
      · refine lv_aload_n hx hb dX14_action_88 rfl (lv_at hl 1 rfl) ?_
        refine lv_iconst (v := 1) hx hb dX14_action_89 (by decide) ?_
        have hcut : sx_cut [(md, .inr (16, [.int 0, .ref ha, .long 0])), (ha, .inr (12, [.ref l0, .ref v0, .ref v1, .ref l1, .ref l2, .ref l3, .int 0, .int 0, .int 0])), (l0, .inr (1, [.int 0, .ref G.2.2.2.2.2.2.2, .int 0]))] [(md, .inr (16, [.int 0, .ref ha, .long 0]))] [(ha, .inr (12, [.ref l0, .ref v0, .ref v1, .ref l1, .ref l2, .ref l3, .int 0, .int 0, .int 0])), (l0, .inr (1, [.int 0, .ref G.2.2.2.2.2.2.2, .int 0]))] [0] [1, 2] := ⟨rfl, rfl, by decide, by decide, by decide⟩
        refine sx_ki (sx_runV (As := [.int 1]) (rest := []) F (m_X14_refuse l G H.size md ha 0 1 0) mi_X14_refuse q935 qs_X14_refuse q933 ⟨⟨Nat.le_of_ble_eq_true rfl, Nat.le_of_ble_eq_true rfl⟩, Nat.le_of_ble_eq_true rfl, Nat.le_of_ble_eq_true rfl⟩ hcut hP hD hS 0 16 rfl rfl rfl hl.1 rfl (Nat.le_of_ble_eq_true rfl) dX14_action_90) hcut hP hD hS hA (fun r_26 u_24 H locs w_25 hP hD hS => ?_)
        have hP : va_P (sx_D G) vwCl [(ha, .inr (12, [.ref l0, .ref v0, .ref v1, .ref l1, .ref l2, .ref l3, .int 0, .int 0, .int 0])), (l0, .inr (1, [.int 0, .ref G.2.2.2.2.2.2.2, .int 0])), (md, .inr (16, [.int 1, .ref ha, .long 0]))] H := hP
        have hD : va_D A [(ha, .inr (12, [.ref l0, .ref v0, .ref v1, .ref l1, .ref l2, .ref l3, .int 0, .int 0, .int 0])), (l0, .inr (1, [.int 0, .ref G.2.2.2.2.2.2.2, .int 0])), (md, .inr (16, [.int 1, .ref ha, .long 0]))] := hD
        have er_26 : r_26 = 0 := w_25
        subst er_26
        have hP := hP.sub (ws' := [(md, .inr (16, [.int 1, .ref ha, .long 0]))]) [2] rfl
        have hD := hD.sub (ws' := [(md, .inr (16, [.int 1, .ref ha, .long 0]))]) [2] (by decide) rfl
        exact (sx_iret (v := 0) (1 : Int32) hx hb hr rfl hlk hP hD hS ⟨((z1_1 (z_n2 (z_n2 (z_n1 (zb_f w_21 c_23))))).symm), fun _ => rfl⟩ dX14_action_93 rfl rfl)
      · refine lv_iload hx hb dX14_action_52 (lv_at hl 5 rfl) ?_
        refine lv_if_lt (tgt := 88) hx hb dX14_action_54 (by decide) (fun c_27 => ?_) (fun c_27 => ?_)
        · refine lv_aload_n hx hb dX14_action_88 rfl (lv_at hl 1 rfl) ?_
          refine lv_iconst (v := 1) hx hb dX14_action_89 (by decide) ?_
          have hcut : sx_cut [(md, .inr (16, [.int 0, .ref ha, .long 0])), (ha, .inr (12, [.ref l0, .ref v0, .ref v1, .ref l1, .ref l2, .ref l3, .int 0, .int 0, .int 0])), (l0, .inr (1, [.int 0, .ref G.2.2.2.2.2.2.2, .int 0]))] [(md, .inr (16, [.int 0, .ref ha, .long 0]))] [(ha, .inr (12, [.ref l0, .ref v0, .ref v1, .ref l1, .ref l2, .ref l3, .int 0, .int 0, .int 0])), (l0, .inr (1, [.int 0, .ref G.2.2.2.2.2.2.2, .int 0]))] [0] [1, 2] := ⟨rfl, rfl, by decide, by decide, by decide⟩
          refine sx_ki (sx_runV (As := [.int 1]) (rest := []) F (m_X14_refuse l G H.size md ha 0 1 0) mi_X14_refuse q935 qs_X14_refuse q933 ⟨⟨Nat.le_of_ble_eq_true rfl, Nat.le_of_ble_eq_true rfl⟩, Nat.le_of_ble_eq_true rfl, Nat.le_of_ble_eq_true rfl⟩ hcut hP hD hS 0 16 rfl rfl rfl hl.1 rfl (Nat.le_of_ble_eq_true rfl) dX14_action_90) hcut hP hD hS hA (fun r_30 u_28 H locs w_29 hP hD hS => ?_)
          have hP : va_P (sx_D G) vwCl [(ha, .inr (12, [.ref l0, .ref v0, .ref v1, .ref l1, .ref l2, .ref l3, .int 0, .int 0, .int 0])), (l0, .inr (1, [.int 0, .ref G.2.2.2.2.2.2.2, .int 0])), (md, .inr (16, [.int 1, .ref ha, .long 0]))] H := hP
          have hD : va_D A [(ha, .inr (12, [.ref l0, .ref v0, .ref v1, .ref l1, .ref l2, .ref l3, .int 0, .int 0, .int 0])), (l0, .inr (1, [.int 0, .ref G.2.2.2.2.2.2.2, .int 0])), (md, .inr (16, [.int 1, .ref ha, .long 0]))] := hD
          have er_30 : r_30 = 0 := w_29
          subst er_30
          have hP := hP.sub (ws' := [(md, .inr (16, [.int 1, .ref ha, .long 0]))]) [2] rfl
          have hD := hD.sub (ws' := [(md, .inr (16, [.int 1, .ref ha, .long 0]))]) [2] (by decide) rfl
          exact (sx_iret (v := 0) (1 : Int32) hx hb hr rfl hlk hP hD hS ⟨((z1_1 (z_n2 (z_n2 (z_n2 (z_n1 (Bool.eq_false_iff.mpr (fun q => z_sign (zb_t w_21 c_23) q c_27))))))).symm), fun _ => rfl⟩ dX14_action_93 rfl rfl)
        · refine lv_iload hx hb dX14_action_57 (lv_at hl 5 rfl) ?_
          refine lv_iload_n hx hb dX14_action_59 rfl (lv_at hl 4 rfl) ?_
          refine lv_iconst (v := (-1)) hx hb dX14_action_60 (by decide) ?_
          refine lv_ixor hx hb dX14_action_61 ?_
          refine lv_topi (fun x_31 ex_31 => ?_)
          refine lv_iand hx hb dX14_action_62 ?_
          refine lv_topi (fun x_32 ex_32 => ?_)
          refine lv_if_ne (tgt := 88) hx hb dX14_action_63 (by decide) (fun c_33 => ?_) (fun c_33 => ?_)
          · refine lv_aload_n hx hb dX14_action_88 rfl (lv_at hl 1 rfl) ?_
            refine lv_iconst (v := 1) hx hb dX14_action_89 (by decide) ?_
            have hcut : sx_cut [(md, .inr (16, [.int 0, .ref ha, .long 0])), (ha, .inr (12, [.ref l0, .ref v0, .ref v1, .ref l1, .ref l2, .ref l3, .int 0, .int 0, .int 0])), (l0, .inr (1, [.int 0, .ref G.2.2.2.2.2.2.2, .int 0]))] [(md, .inr (16, [.int 0, .ref ha, .long 0]))] [(ha, .inr (12, [.ref l0, .ref v0, .ref v1, .ref l1, .ref l2, .ref l3, .int 0, .int 0, .int 0])), (l0, .inr (1, [.int 0, .ref G.2.2.2.2.2.2.2, .int 0]))] [0] [1, 2] := ⟨rfl, rfl, by decide, by decide, by decide⟩
            refine sx_ki (sx_runV (As := [.int 1]) (rest := []) F (m_X14_refuse l G H.size md ha 0 1 0) mi_X14_refuse q935 qs_X14_refuse q933 ⟨⟨Nat.le_of_ble_eq_true rfl, Nat.le_of_ble_eq_true rfl⟩, Nat.le_of_ble_eq_true rfl, Nat.le_of_ble_eq_true rfl⟩ hcut hP hD hS 0 16 rfl rfl rfl hl.1 rfl (Nat.le_of_ble_eq_true rfl) dX14_action_90) hcut hP hD hS hA (fun r_36 u_34 H locs w_35 hP hD hS => ?_)
            have hP : va_P (sx_D G) vwCl [(ha, .inr (12, [.ref l0, .ref v0, .ref v1, .ref l1, .ref l2, .ref l3, .int 0, .int 0, .int 0])), (l0, .inr (1, [.int 0, .ref G.2.2.2.2.2.2.2, .int 0])), (md, .inr (16, [.int 1, .ref ha, .long 0]))] H := hP
            have hD : va_D A [(ha, .inr (12, [.ref l0, .ref v0, .ref v1, .ref l1, .ref l2, .ref l3, .int 0, .int 0, .int 0])), (l0, .inr (1, [.int 0, .ref G.2.2.2.2.2.2.2, .int 0])), (md, .inr (16, [.int 1, .ref ha, .long 0]))] := hD
            have er_36 : r_36 = 0 := w_35
            subst er_36
            have hP := hP.sub (ws' := [(md, .inr (16, [.int 1, .ref ha, .long 0]))]) [2] rfl
            have hD := hD.sub (ws' := [(md, .inr (16, [.int 1, .ref ha, .long 0]))]) [2] (by decide) rfl
            exact (sx_iret (v := 0) (1 : Int32) hx hb hr rfl hlk hP hD hS ⟨((z1_1 (z_n2 (z_n2 (z_n2 (z_n1 (by rw [ex_32, ex_31] at c_33; exact decide_eq_false c_33)))))).symm), fun _ => rfl⟩ dX14_action_93 rfl rfl)
          · refine lv_iload hx hb dX14_action_66 (lv_at hl 6 rfl) ?_
            refine lv_iconst (v := 1) hx hb dX14_action_68 (by decide) ?_
            refine lv_bipush (v := 50) hx hb dX14_action_69 (by decide) ?_
            have hcut : sx_cut [(md, .inr (16, [.int 0, .ref ha, .long 0])), (ha, .inr (12, [.ref l0, .ref v0, .ref v1, .ref l1, .ref l2, .ref l3, .int 0, .int 0, .int 0])), (l0, .inr (1, [.int 0, .ref G.2.2.2.2.2.2.2, .int 0]))] [] [(md, .inr (16, [.int 0, .ref ha, .long 0])), (ha, .inr (12, [.ref l0, .ref v0, .ref v1, .ref l1, .ref l2, .ref l3, .int 0, .int 0, .int 0])), (l0, .inr (1, [.int 0, .ref G.2.2.2.2.2.2.2, .int 0]))] [] [0, 1, 2] := ⟨rfl, rfl, by decide, by decide, by decide⟩
            refine sx_ki (sx_runS (As := [.int p4, .int 1, .int 50]) (rest := []) F (m_X14_is l G H.size p4 1 50) mi_X14_is q931 q930 ⟨⟨Nat.le_of_ble_eq_true rfl, Nat.le_of_ble_eq_true rfl⟩, Nat.le_of_ble_eq_true rfl, Nat.le_of_ble_eq_true rfl⟩ hcut hP hD hS rfl hl.1 rfl (Nat.le_of_ble_eq_true rfl) dX14_action_71) hcut hP hD hS hA (fun r_39 u_37 H locs w_38 hP hD hS => ?_)
            have hP : va_P (sx_D G) vwCl [(md, .inr (16, [.int 0, .ref ha, .long 0])), (ha, .inr (12, [.ref l0, .ref v0, .ref v1, .ref l1, .ref l2, .ref l3, .int 0, .int 0, .int 0])), (l0, .inr (1, [.int 0, .ref G.2.2.2.2.2.2.2, .int 0]))] H := hP
            have hD : va_D A [(md, .inr (16, [.int 0, .ref ha, .long 0])), (ha, .inr (12, [.ref l0, .ref v0, .ref v1, .ref l1, .ref l2, .ref l3, .int 0, .int 0, .int 0])), (l0, .inr (1, [.int 0, .ref G.2.2.2.2.2.2.2, .int 0]))] := hD
            have w_38 : r_39 = zb (zw 1 50 p4) := w_38
            refine lv_if_eq (tgt := 88) hx hb dX14_action_74 (by decide) (fun c_40 => ?_) (fun c_40 => ?_)
            · refine lv_aload_n hx hb dX14_action_88 rfl (lv_at hl 1 rfl) ?_
              refine lv_iconst (v := 1) hx hb dX14_action_89 (by decide) ?_
              have hcut : sx_cut [(md, .inr (16, [.int 0, .ref ha, .long 0])), (ha, .inr (12, [.ref l0, .ref v0, .ref v1, .ref l1, .ref l2, .ref l3, .int 0, .int 0, .int 0])), (l0, .inr (1, [.int 0, .ref G.2.2.2.2.2.2.2, .int 0]))] [(md, .inr (16, [.int 0, .ref ha, .long 0]))] [(ha, .inr (12, [.ref l0, .ref v0, .ref v1, .ref l1, .ref l2, .ref l3, .int 0, .int 0, .int 0])), (l0, .inr (1, [.int 0, .ref G.2.2.2.2.2.2.2, .int 0]))] [0] [1, 2] := ⟨rfl, rfl, by decide, by decide, by decide⟩
              refine sx_ki (sx_runV (As := [.int 1]) (rest := []) F (m_X14_refuse l G H.size md ha 0 1 0) mi_X14_refuse q935 qs_X14_refuse q933 ⟨⟨Nat.le_of_ble_eq_true rfl, Nat.le_of_ble_eq_true rfl⟩, Nat.le_of_ble_eq_true rfl, Nat.le_of_ble_eq_true rfl⟩ hcut hP hD hS 0 16 rfl rfl rfl hl.1 rfl (Nat.le_of_ble_eq_true rfl) dX14_action_90) hcut hP hD hS hA (fun r_43 u_41 H locs w_42 hP hD hS => ?_)
              have hP : va_P (sx_D G) vwCl [(ha, .inr (12, [.ref l0, .ref v0, .ref v1, .ref l1, .ref l2, .ref l3, .int 0, .int 0, .int 0])), (l0, .inr (1, [.int 0, .ref G.2.2.2.2.2.2.2, .int 0])), (md, .inr (16, [.int 1, .ref ha, .long 0]))] H := hP
              have hD : va_D A [(ha, .inr (12, [.ref l0, .ref v0, .ref v1, .ref l1, .ref l2, .ref l3, .int 0, .int 0, .int 0])), (l0, .inr (1, [.int 0, .ref G.2.2.2.2.2.2.2, .int 0])), (md, .inr (16, [.int 1, .ref ha, .long 0]))] := hD
              have er_43 : r_43 = 0 := w_42
              subst er_43
              have hP := hP.sub (ws' := [(md, .inr (16, [.int 1, .ref ha, .long 0]))]) [2] rfl
              have hD := hD.sub (ws' := [(md, .inr (16, [.int 1, .ref ha, .long 0]))]) [2] (by decide) rfl
              exact (sx_iret (v := 0) (1 : Int32) hx hb hr rfl hlk hP hD hS ⟨((z1_1 (z_n2 (z_n2 (z_n2 (z_n2 (z_n1 (zb_f w_38 c_40))))))).symm), fun _ => rfl⟩ dX14_action_93 rfl rfl)
            · refine lv_iload hx hb dX14_action_77 (lv_at hl 7 rfl) ?_
              refine lv_iconst (v := 1) hx hb dX14_action_79 (by decide) ?_
              refine lv_bipush (v := 20) hx hb dX14_action_80 (by decide) ?_
              have hcut : sx_cut [(md, .inr (16, [.int 0, .ref ha, .long 0])), (ha, .inr (12, [.ref l0, .ref v0, .ref v1, .ref l1, .ref l2, .ref l3, .int 0, .int 0, .int 0])), (l0, .inr (1, [.int 0, .ref G.2.2.2.2.2.2.2, .int 0]))] [] [(md, .inr (16, [.int 0, .ref ha, .long 0])), (ha, .inr (12, [.ref l0, .ref v0, .ref v1, .ref l1, .ref l2, .ref l3, .int 0, .int 0, .int 0])), (l0, .inr (1, [.int 0, .ref G.2.2.2.2.2.2.2, .int 0]))] [] [0, 1, 2] := ⟨rfl, rfl, by decide, by decide, by decide⟩
              refine sx_ki (sx_runS (As := [.int p5, .int 1, .int 20]) (rest := []) F (m_X14_is l G H.size p5 1 20) mi_X14_is q931 q930 ⟨⟨Nat.le_of_ble_eq_true rfl, Nat.le_of_ble_eq_true rfl⟩, Nat.le_of_ble_eq_true rfl, Nat.le_of_ble_eq_true rfl⟩ hcut hP hD hS rfl hl.1 rfl (Nat.le_of_ble_eq_true rfl) dX14_action_82) hcut hP hD hS hA (fun r_46 u_44 H locs w_45 hP hD hS => ?_)
              have hP : va_P (sx_D G) vwCl [(md, .inr (16, [.int 0, .ref ha, .long 0])), (ha, .inr (12, [.ref l0, .ref v0, .ref v1, .ref l1, .ref l2, .ref l3, .int 0, .int 0, .int 0])), (l0, .inr (1, [.int 0, .ref G.2.2.2.2.2.2.2, .int 0]))] H := hP
              have hD : va_D A [(md, .inr (16, [.int 0, .ref ha, .long 0])), (ha, .inr (12, [.ref l0, .ref v0, .ref v1, .ref l1, .ref l2, .ref l3, .int 0, .int 0, .int 0])), (l0, .inr (1, [.int 0, .ref G.2.2.2.2.2.2.2, .int 0]))] := hD
              have w_45 : r_46 = zb (zw 1 20 p5) := w_45
              refine lv_if_ne (tgt := 94) hx hb dX14_action_85 (by decide) (fun c_47 => ?_) (fun c_47 => ?_)
              · refine lv_iload hx hb dX14_action_94 (lv_at hl 0 rfl) ?_
                refine lv_bipush (v := 14) hx hb dX14_action_96 (by decide) ?_
                refine lv_icmp_ne (tgt := 107) hx hb dX14_action_98 (by decide) (fun c_48 => ?_) (fun c_48 => absurd c_48 (by decide))
                refine lv_aload_n hx hb dX14_action_107 rfl (lv_at hl 1 rfl) ?_
                refine va_get (D := sx_D G) (ci := 16) (v := .ref ha) (C := RX14) (T := TX14) (N := 3) hx hb hts inX14 hown hK hP 0 rfl rfl 1 (by decide) (hts _ q909) (fun _ h9 => h9) rfl dX14_action_108 ?_
                refine va_getN (D := sx_D G) (ci := 12) (v := .ref l0) (C := RX10) (T := TX10) (N := 9) hx hb hts inX10 hown hK hP 1 rfl rfl 0 (by decide) (hts _ q872) (fun _ h9 => h9) rfl dX14_action_111 ?_
                refine va_new (ci := 10) (fs := [.int 0, .int 0, .int 0, .int 0, .int 0, .int 0, .int 0]) (C := RX8) (T := TX8) (N := 7) hx hb hts inX8 tyX8 tyX8_ok hown (hts _ q937) (hts _ q938) (hts _ q19) hK hP hD hS hA rfl (fun j hj => by rcases (show j = 0 ∨ j = 1 ∨ j = 2 ∨ j = 3 ∨ j = 4 ∨ j = 5 ∨ j = 6 by omega) with rfl | rfl | rfl | rfl | rfl | rfl | rfl <;> rfl) (Nat.le_of_ble_eq_true rfl) (Nat.le_of_ble_eq_true rfl) dX14_action_114 (fun h_49 H hP hD hS => ?_)
                have hP : va_P (sx_D G) vwCl [(md, .inr (16, [.int 0, .ref ha, .long 0])), (ha, .inr (12, [.ref l0, .ref v0, .ref v1, .ref l1, .ref l2, .ref l3, .int 0, .int 0, .int 0])), (l0, .inr (1, [.int 0, .ref G.2.2.2.2.2.2.2, .int 0])), (h_49, .inr (10, [.int 0, .int 0, .int 0, .int 0, .int 0, .int 0, .int 0]))] H := hP
                have hD : va_D A [(md, .inr (16, [.int 0, .ref ha, .long 0])), (ha, .inr (12, [.ref l0, .ref v0, .ref v1, .ref l1, .ref l2, .ref l3, .int 0, .int 0, .int 0])), (l0, .inr (1, [.int 0, .ref G.2.2.2.2.2.2.2, .int 0])), (h_49, .inr (10, [.int 0, .int 0, .int 0, .int 0, .int 0, .int 0, .int 0]))] := hD
                refine lv_dup hx hb dX14_action_117 rfl ?_
                refine lv_iload hx hb dX14_action_118 (lv_at hl 0 rfl) ?_
                refine lv_iload_n hx hb dX14_action_120 rfl (lv_at hl 2 rfl) ?_
                refine lv_iload_n hx hb dX14_action_121 rfl (lv_at hl 3 rfl) ?_
                refine lv_iload_n hx hb dX14_action_122 rfl (lv_at hl 4 rfl) ?_
                refine lv_iload hx hb dX14_action_123 (lv_at hl 5 rfl) ?_
                refine lv_iload hx hb dX14_action_125 (lv_at hl 6 rfl) ?_
                refine lv_iload hx hb dX14_action_127 (lv_at hl 7 rfl) ?_
                have hcut : sx_cut [(md, .inr (16, [.int 0, .ref ha, .long 0])), (ha, .inr (12, [.ref l0, .ref v0, .ref v1, .ref l1, .ref l2, .ref l3, .int 0, .int 0, .int 0])), (l0, .inr (1, [.int 0, .ref G.2.2.2.2.2.2.2, .int 0])), (h_49, .inr (10, [.int 0, .int 0, .int 0, .int 0, .int 0, .int 0, .int 0]))] [(h_49, .inr (10, [.int 0, .int 0, .int 0, .int 0, .int 0, .int 0, .int 0]))] [(md, .inr (16, [.int 0, .ref ha, .long 0])), (ha, .inr (12, [.ref l0, .ref v0, .ref v1, .ref l1, .ref l2, .ref l3, .int 0, .int 0, .int 0])), (l0, .inr (1, [.int 0, .ref G.2.2.2.2.2.2.2, .int 0]))] [3] [0, 1, 2] := ⟨rfl, rfl, by decide, by decide, by decide⟩
                refine sx_kv (sx_runI (As := [.int 0, .int p0, .int p1, .int p2, .int p3, .int p4, .int p5]) (rest := [.ref h_49, .ref l0]) F (m_X8_init l G H.size h_49 0 p0 p1 p2 p3 p4 p5) mi_X8_init q940 rfl q939 ⟨⟨Nat.le_of_ble_eq_true rfl, Nat.le_of_ble_eq_true rfl⟩, Nat.le_of_ble_eq_true rfl, Nat.le_of_ble_eq_true rfl⟩ hcut hP hD hS rfl hl.1 rfl (Nat.le_of_ble_eq_true rfl) dX14_action_129) hcut hP hD hS hA (fun u_50 H locs w_51 hP hD hS => ?_)
                have hP : va_P (sx_D G) vwCl [(md, .inr (16, [.int 0, .ref ha, .long 0])), (ha, .inr (12, [.ref l0, .ref v0, .ref v1, .ref l1, .ref l2, .ref l3, .int 0, .int 0, .int 0])), (l0, .inr (1, [.int 0, .ref G.2.2.2.2.2.2.2, .int 0])), (h_49, .inr (10, [.int 0, .int p0, .int p1, .int p2, .int p3, .int p4, .int p5]))] H := hP
                have hD : va_D A [(md, .inr (16, [.int 0, .ref ha, .long 0])), (ha, .inr (12, [.ref l0, .ref v0, .ref v1, .ref l1, .ref l2, .ref l3, .int 0, .int 0, .int 0])), (l0, .inr (1, [.int 0, .ref G.2.2.2.2.2.2.2, .int 0])), (h_49, .inr (10, [.int 0, .int p0, .int p1, .int p2, .int p3, .int p4, .int p5]))] := hD
                have hcut : sx_cut [(md, .inr (16, [.int 0, .ref ha, .long 0])), (ha, .inr (12, [.ref l0, .ref v0, .ref v1, .ref l1, .ref l2, .ref l3, .int 0, .int 0, .int 0])), (l0, .inr (1, [.int 0, .ref G.2.2.2.2.2.2.2, .int 0])), (h_49, .inr (10, [.int 0, .int p0, .int p1, .int p2, .int p3, .int p4, .int p5]))] [(l0, .inr (1, [.int 0, .ref G.2.2.2.2.2.2.2, .int 0])), (h_49, .inr (10, [.int 0, .int p0, .int p1, .int p2, .int p3, .int p4, .int p5]))] [(md, .inr (16, [.int 0, .ref ha, .long 0])), (ha, .inr (12, [.ref l0, .ref v0, .ref v1, .ref l1, .ref l2, .ref l3, .int 0, .int 0, .int 0]))] [2, 3] [0, 1] := ⟨rfl, rfl, by decide, by decide, by decide⟩
                refine sx_ki (sx_runV (As := [.ref h_49]) (rest := []) F (m_add_X8 l G H.size l0 h_49 0 p0 p1 p2 p3 p4 p5) mi_Jx4a65c_add_9ea2d q984 qs_Jx4a65c_add_9ea2d q983 ⟨⟨Nat.le_of_ble_eq_true rfl, Nat.le_of_ble_eq_true rfl⟩, Nat.le_of_ble_eq_true rfl, Nat.le_of_ble_eq_true rfl⟩ hcut hP hD hS 2 1 rfl rfl rfl hl.1 rfl (Nat.le_of_ble_eq_true rfl) dX14_action_132) hcut hP hD hS hA (fun r_55 u_53 H locs w_54 hP hD hS => ?_)
                have hP : va_P (sx_D G) vwCl [(md, .inr (16, [.int 0, .ref ha, .long 0])), (ha, .inr (12, [.ref l0, .ref v0, .ref v1, .ref l1, .ref l2, .ref l3, .int 0, .int 0, .int 0])), (l0, .inr (1, [.int 1, .ref u_53, .int 1]))] H := hP
                have hD : va_D A [(md, .inr (16, [.int 0, .ref ha, .long 0])), (ha, .inr (12, [.ref l0, .ref v0, .ref v1, .ref l1, .ref l2, .ref l3, .int 0, .int 0, .int 0])), (l0, .inr (1, [.int 1, .ref u_53, .int 1]))] := hD
                have er_55 : r_55 = 1 := w_54
                subst er_55
                refine lv_pop hx hb dX14_action_135 rfl ?_
                refine lv_iload hx hb dX14_action_136 (lv_at hl 0 rfl) ?_
                have hP := hP.sub (ws' := [(md, .inr (16, [.int 0, .ref ha, .long 0]))]) [0] rfl
                have hD := hD.sub (ws' := [(md, .inr (16, [.int 0, .ref ha, .long 0]))]) [0] (by decide) rfl
                exact (sx_iret (v := 0) (0 : Int32) hx hb hr rfl hlk hP hD hS ⟨((z1_0 (z_and (zb_t w_5 c_7) (z_and ((z_and0 _).trans (zb_t w_14 c_16)) (z_and (zb_t w_21 c_23) (z_and (by rw [ex_32, ex_31] at c_33; exact decide_eq_true c_33) (z_and (zb_t w_38 c_40) (zb_t w_45 c_47))))))).symm), fun _ => rfl⟩ dX14_action_138 rfl rfl)
              · refine lv_aload_n hx hb dX14_action_88 rfl (lv_at hl 1 rfl) ?_
                refine lv_iconst (v := 1) hx hb dX14_action_89 (by decide) ?_
                have hcut : sx_cut [(md, .inr (16, [.int 0, .ref ha, .long 0])), (ha, .inr (12, [.ref l0, .ref v0, .ref v1, .ref l1, .ref l2, .ref l3, .int 0, .int 0, .int 0])), (l0, .inr (1, [.int 0, .ref G.2.2.2.2.2.2.2, .int 0]))] [(md, .inr (16, [.int 0, .ref ha, .long 0]))] [(ha, .inr (12, [.ref l0, .ref v0, .ref v1, .ref l1, .ref l2, .ref l3, .int 0, .int 0, .int 0])), (l0, .inr (1, [.int 0, .ref G.2.2.2.2.2.2.2, .int 0]))] [0] [1, 2] := ⟨rfl, rfl, by decide, by decide, by decide⟩
                refine sx_ki (sx_runV (As := [.int 1]) (rest := []) F (m_X14_refuse l G H.size md ha 0 1 0) mi_X14_refuse q935 qs_X14_refuse q933 ⟨⟨Nat.le_of_ble_eq_true rfl, Nat.le_of_ble_eq_true rfl⟩, Nat.le_of_ble_eq_true rfl, Nat.le_of_ble_eq_true rfl⟩ hcut hP hD hS 0 16 rfl rfl rfl hl.1 rfl (Nat.le_of_ble_eq_true rfl) dX14_action_90) hcut hP hD hS hA (fun r_58 u_56 H locs w_57 hP hD hS => ?_)
                have hP : va_P (sx_D G) vwCl [(ha, .inr (12, [.ref l0, .ref v0, .ref v1, .ref l1, .ref l2, .ref l3, .int 0, .int 0, .int 0])), (l0, .inr (1, [.int 0, .ref G.2.2.2.2.2.2.2, .int 0])), (md, .inr (16, [.int 1, .ref ha, .long 0]))] H := hP
                have hD : va_D A [(ha, .inr (12, [.ref l0, .ref v0, .ref v1, .ref l1, .ref l2, .ref l3, .int 0, .int 0, .int 0])), (l0, .inr (1, [.int 0, .ref G.2.2.2.2.2.2.2, .int 0])), (md, .inr (16, [.int 1, .ref ha, .long 0]))] := hD
                have er_58 : r_58 = 0 := w_57
                subst er_58
                have hP := hP.sub (ws' := [(md, .inr (16, [.int 1, .ref ha, .long 0]))]) [2] rfl
                have hD := hD.sub (ws' := [(md, .inr (16, [.int 1, .ref ha, .long 0]))]) [2] (by decide) rfl
                exact (sx_iret (v := 0) (1 : Int32) hx hb hr rfl hlk hP hD hS ⟨((z1_1 (z_n2 (z_n2 (z_n2 (z_n2 (z_n2 (zb_f w_45 c_47))))))).symm), fun _ => rfl⟩ dX14_action_93 rfl rfl)
