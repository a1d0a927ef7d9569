/-! the law's helpers: small words -/
theorem z_updz (g : Nat → Int64) {r : Int32} (h : r = 0) : vp_updL g (0 : Int32).toNatClampNeg r.toInt64 0 = 0 := by
  rw [h]; rfl
theorem z_updb (g : Nat → Int64) : vp_updL g (0 : Int32).toNatClampNeg 0 0 = 0 := rfl
/-! the helpers' words -/
theorem mi_L_action : sx_MW yL_action cL_action 9 (some .int) [(0, 18, 21, 13), (0, 18, 25, 15)] 8 := ⟨q661, q0, ⟨by decide, by decide, by decide +kernel⟩, by decide⟩
theorem mi_L_file : sx_MW yL_file cL_file 5 (some .int) [(0, 10, 13, 21), (0, 10, 17, 13)] 4 := ⟨q696, q0, ⟨by decide, by decide, by decide +kernel⟩, by decide⟩
theorem mi_L_set : sx_MW yL_set cL_set 5 (some .int) [(0, 10, 13, 21), (0, 10, 17, 13)] 4 := ⟨q704, q0, ⟨by decide, by decide, by decide +kernel⟩, by decide⟩
theorem mi_L_worker : sx_MW yL_worker cL_worker 4 (some .int) [(0, 9, 12, 13), (0, 9, 15, 15)] 3 := ⟨q715, q0, ⟨by decide, by decide, by decide +kernel⟩, by decide⟩
theorem mi_L_team : sx_MW yL_team cL_team 4 (some .int) [(0, 9, 12, 13), (0, 9, 15, 15)] 3 := ⟨q733, q0, ⟨by decide, by decide, by decide +kernel⟩, by decide⟩
theorem mi_L_check : sx_MW yL_check cL_check 4 (some .int) [(0, 9, 12, 13)] 3 := ⟨q763, q0, ⟨by decide, by decide, by decide +kernel⟩, by decide⟩
theorem mi_L_many : sx_MW yL_many cL_many 4 (some .int) [(0, 9, 12, 13)] 3 := ⟨q794, q0, ⟨by decide, by decide, by decide +kernel⟩, by decide⟩
theorem mi_L_touched : sx_MW yL_touched cL_touched 4 (some .int) [(0, 9, 12, 21)] 3 := ⟨q817, q0, ⟨by decide, by decide, by decide +kernel⟩, by decide⟩
theorem mi_L_ofAction : sx_MW yL_ofAction cL_ofAction 5 (some .int) [(0, 10, 13, 21), (0, 10, 17, 13)] 4 := ⟨q711, q0, ⟨by decide, by decide, by decide +kernel⟩, by decide⟩
theorem mi_L_ofWorker : sx_MW yL_ofWorker cL_ofWorker 5 (some .int) [(0, 10, 13, 21), (0, 10, 17, 13)] 4 := ⟨q722, q0, ⟨by decide, by decide, by decide +kernel⟩, by decide⟩
theorem mi_L_mend : sx_MW yL_mend cL_mend 5 (some .int) [(0, 10, 13, 21), (0, 10, 17, 13)] 4 := ⟨q726, q0, ⟨by decide, by decide, by decide +kernel⟩, by decide⟩
theorem mi_L_quota : sx_MW yL_quota cL_quota 5 (some .int) [(0, 10, 13, 21), (0, 10, 17, 13)] 4 := ⟨q740, q0, ⟨by decide, by decide, by decide +kernel⟩, by decide⟩
theorem mi_L_ofTeam : sx_MW yL_ofTeam cL_ofTeam 5 (some .int) [(0, 10, 13, 21), (0, 10, 17, 13)] 4 := ⟨q748, q0, ⟨by decide, by decide, by decide +kernel⟩, by decide⟩
theorem mi_L_build : sx_MW yL_build cL_build 5 (some .int) [(0, 10, 13, 21), (0, 10, 17, 15)] 4 := ⟨q752, q0, ⟨by decide, by decide, by decide +kernel⟩, by decide⟩
theorem mi_L_recheck : sx_MW yL_recheck cL_recheck 4 (some .int) [(0, 9, 12, 21), (0, 9, 15, 15)] 3 := ⟨q770, q0, ⟨by decide, by decide, by decide +kernel⟩, by decide⟩
theorem mi_L_ofEntry : sx_MW yL_ofEntry cL_ofEntry 5 (some .int) [(0, 10, 13, 21), (0, 10, 17, 13)] 4 := ⟨q783, q0, ⟨by decide, by decide, by decide +kernel⟩, by decide⟩
theorem mi_L_from : sx_MW yL_from cL_from 5 (some .int) [(0, 10, 13, 21)] 4 := ⟨q787, q0, ⟨by decide, by decide, by decide +kernel⟩, by decide⟩
theorem mi_L_wouldRun : sx_MW yL_wouldRun cL_wouldRun 5 (some .int) [(0, 10, 13, 21)] 4 := ⟨q798, q0, ⟨by decide, by decide, by decide +kernel⟩, by decide⟩
theorem mi_L_wouldBeWrong : sx_MW yL_wouldBeWrong cL_wouldBeWrong 5 (some .int) [(0, 17, 20, 21)] 4 := ⟨q805, q0, ⟨by decide, by decide, by decide +kernel⟩, by decide⟩
theorem mi_L_wouldGo : sx_MW yL_wouldGo cL_wouldGo 5 (some .int) [(0, 10, 13, 21), (0, 10, 17, 13)] 4 := ⟨q821, q0, ⟨by decide, by decide, by decide +kernel⟩, by decide⟩
set_option maxHeartbeats 4000000 in
set_option maxRecDepth 100000 in
theorem m_L_action (l : Launch) (hfl : l.stackTraces = false) (G : sx_G) (sz : Nat) (h : Nat) (b : Nat) (pl : Nat) (cr : Nat) (te : Nat) (ca : Nat) (a0 : Nat) (a1 : Nat) (a3 : Nat) (a4 : Nat) (a5 : Nat) (a6 : Nat) (a7 : Nat) (a8 : Nat) (a9 : Nat) (p0 : Int32) (p1 : Int32) (p2 : Int32) (p3 : Int32) (p4 : Int32) (p5 : Int32) (o : Nat) (g : Nat → Int64) : sx_MetW l yL_action cL_action 9 (some .int) [(0, 18, 21, 13), (0, 18, 25, 15)] 8 129 7 42 G [.ref h, .int p0, .int p1, .int p2, .int p3, .int p4, .int p5, .ref o] [(h, .inr (9, [.ref b, .ref pl, .ref cr, .ref te, .ref ca])), (pl, .inr (6, [.ref a0, .ref a1, .int 0, .ref a3, .ref a4, .ref a5, .ref a6, .ref a7, .ref a8, .ref a9])), (a3, .inl (G.2.1, 14, .inl (fun _ => 0))), (a4, .inl (G.2.1, 14, .inl (fun _ => 0))), (a5, .inl (G.2.1, 14, .inl (fun _ => 0))), (a6, .inl (G.2.1, 14, .inl (fun _ => 0))), (a7, .inl (G.2.1, 14, .inl (fun _ => 0))), (a8, .inl (G.2.1, 14, .inl (fun _ => 0))), (o, .inl (G.2.2.1, 1, .inr (.inl g)))] sz (sx_Qi G (fun (r : Int32) (u : Nat → Int64) => r = z_action p0 p1 p2 p3 p4 p5 ∧ (r = 0 → u 0 = 0)) (fun (u : Nat → Int64) => [(o, .inl (G.2.2.1, 1, .inr (.inl u)))])) := by
  refine sx_startW (by decide) rfl (fun p e s m below meth c A ls F hr hlk hnm htab hP hD hS hl => ?_)
  obtain ⟨hx, hb, hml, hown, hts, hK, hE, hA⟩ := id F
  have hown : s.vm.findClass RL = some m.cls := hown
  generalize hHe : s.heap = H at hP
  have hS : va_S A s.heap H [] := by rw [← hHe]; exact va_S.rf
  have hl : lv_has ls 9 [(0, .ref h), (1, .int p0), (2, .int p1), (3, .int p2), (4, .int p3), (5, .int p4), (6, .int p5), (7, .ref o)] := hl
  refine lv_aload hx hb dL_action_0 (lv_at hl 7 rfl) ?_
  refine lv_iconst (v := 0) hx hb dL_action_2 (by decide) ?_
  refine lv_aload_n hx hb dL_action_3 rfl (lv_at hl 0 rfl) ?_
  refine lv_iload_n hx hb dL_action_4 rfl (lv_at hl 1 rfl) ?_
  refine lv_iload_n hx hb dL_action_5 rfl (lv_at hl 2 rfl) ?_
  refine lv_iload_n hx hb dL_action_6 rfl (lv_at hl 3 rfl) ?_
  refine lv_iload hx hb dL_action_7 (lv_at hl 4 rfl) ?_
  refine lv_iload hx hb dL_action_9 (lv_at hl 5 rfl) ?_
  refine lv_iload hx hb dL_action_11 (lv_at hl 6 rfl) ?_
  have hcut : sx_cut [(h, .inr (9, [.ref b, .ref pl, .ref cr, .ref te, .ref ca])), (pl, .inr (6, [.ref a0, .ref a1, .int 0, .ref a3, .ref a4, .ref a5, .ref a6, .ref a7, .ref a8, .ref a9])), (a3, .inl (G.2.1, 14, .inl (fun _ => 0))), (a4, .inl (G.2.1, 14, .inl (fun _ => 0))), (a5, .inl (G.2.1, 14, .inl (fun _ => 0))), (a6, .inl (G.2.1, 14, .inl (fun _ => 0))), (a7, .inl (G.2.1, 14, .inl (fun _ => 0))), (a8, .inl (G.2.1, 14, .inl (fun _ => 0))), (o, .inl (G.2.2.1, 1, .inr (.inl g)))] [(h, .inr (9, [.ref b, .ref pl, .ref cr, .ref te, .ref ca])), (pl, .inr (6, [.ref a0, .ref a1, .int 0, .ref a3, .ref a4, .ref a5, .ref a6, .ref a7, .ref a8, .ref a9])), (a3, .inl (G.2.1, 14, .inl (fun _ => 0))), (a4, .inl (G.2.1, 14, .inl (fun _ => 0))), (a5, .inl (G.2.1, 14, .inl (fun _ => 0))), (a6, .inl (G.2.1, 14, .inl (fun _ => 0))), (a7, .inl (G.2.1, 14, .inl (fun _ => 0))), (a8, .inl (G.2.1, 14, .inl (fun _ => 0)))] [(o, .inl (G.2.2.1, 1, .inr (.inl g)))] [0, 1, 2, 3, 4, 5, 6, 7] [8] := ⟨rfl, rfl, by decide, by decide, by decide⟩
  refine sx_xki (sx_xrunV (As := [.int p0, .int p1, .int p2, .int p3, .int p4, .int p5]) (rest := [.int 0, .ref o]) F (m_X7_action l hfl G H.size h b pl cr te ca a0 a1 a3 a4 a5 a6 a7 a8 a9 p0 p1 p2 p3 p4 p5) mi_X7_action q665 qs_X7_action q664 ⟨⟨Nat.le_of_ble_eq_true rfl, Nat.le_of_ble_eq_true rfl⟩, Nat.le_of_ble_eq_true rfl, Nat.le_of_ble_eq_true rfl⟩ hcut hP hD hS 0 9 rfl rfl rfl hl.1 rfl (Nat.le_of_ble_eq_true rfl) dL_action_13) hcut hP hD hS hA (fun E ce q9 H locs hw9 hP hD hS hce hcv hcl => ?_) (fun r_3 u_1 H locs w_2 hP hD hS => ?_)
  · have hP : va_P (sx_D G) vwCl [(o, .inl (G.2.2.1, 1, .inr (.inl g)))] H := hP
    have hD : va_D A [(o, .inl (G.2.2.1, 1, .inr (.inl g)))] := hD
    obtain ⟨rfl, hz⟩ := hw9
    refine vx_catch (own := RL) (E := "java/lang/IllegalArgumentException") (name := "java/lang/IllegalArgumentException") hown [] ({ startPc := 0, endPc := 18, handlerPc := 21, catchType := 13 } : ClassFile.ExceptionTableEntry) [({ startPc := 0, endPc := 18, handlerPc := 25, catchType := 15 } : ClassFile.ExceptionTableEntry)] htab (fun z hz9 => absurd hz9 List.not_mem_nil) (by decide) (by decide) (hts _ q662) (hts _ q375) hce hcv hcl ?_
    refine lv_astore (lv' := [(8, .ref q9), (0, .ref h), (1, .int p0), (2, .int p1), (3, .int p2), (4, .int p3), (5, .int p4), (6, .int p5), (7, .ref o)]) hx hb dL_action_21 hl (by decide) rfl (fun ls hl => ?_)
    refine lv_iconst (v := 1) hx hb dL_action_23 (by decide) ?_
    exact (sx_iret (v := 1) (g) hx hb hr rfl hlk hP hD hS ⟨hz.symm, fun h => absurd h (by decide)⟩ dL_action_24 rfl rfl)
  · have hP : va_P (sx_D G) vwCl [(o, .inl (G.2.2.1, 1, .inr (.inl g)))] H := hP
    have hD : va_D A [(o, .inl (G.2.2.1, 1, .inr (.inl g)))] := hD
    refine lv_i2l hx hb dL_action_16 rfl ?_
    refine va_last (D := sx_D G) (tys := sx_tys G) hx hb hK hP hD hS 0 1 rfl rfl (vp_in_iff.mpr (by decide)) dL_action_17 (fun H locs hP hD hS => ?_)
    have hP : va_P (sx_D G) vwCl [(o, .inl (G.2.2.1, 1, .inr (.inl (vp_updL g (0 : Int32).toNatClampNeg r_3.toInt64))))] H := hP
    have hD : va_D A [(o, .inl (G.2.2.1, 1, .inr (.inl (vp_updL g (0 : Int32).toNatClampNeg r_3.toInt64))))] := hD
    refine lv_goto (tgt := 29) hx hb dL_action_18 (by decide) ?_
    refine lv_iconst (v := 0) hx hb dL_action_29 (by decide) ?_
    exact (sx_iret (v := 0) (vp_updL g (0 : Int32).toNatClampNeg r_3.toInt64) hx hb hr rfl hlk hP hD hS ⟨w_2.2.symm, fun _ => z_updz _ w_2.1⟩ dL_action_30 rfl rfl)
set_option maxHeartbeats 4000000 in
set_option maxRecDepth 100000 in
theorem m_L_file (l : Launch) (hfl : l.stackTraces = false) (G : sx_G) (sz : Nat) (h : Nat) (b : Nat) (pl : Nat) (cr : Nat) (te : Nat) (ca : Nat) (a0 : Nat) (a1 : Nat) (a3 : Nat) (a4 : Nat) (a5 : Nat) (a6 : Nat) (a7 : Nat) (a8 : Nat) (a9 : Nat) (p0 : Int32) (p1 : Int32) (o : Nat) (g : Nat → Int64) : sx_MetW l yL_file cL_file 5 (some .int) [(0, 10, 13, 21), (0, 10, 17, 13)] 8 126 2 12 G [.ref h, .int p0, .int p1, .ref o] [(h, .inr (9, [.ref b, .ref pl, .ref cr, .ref te, .ref ca])), (pl, .inr (6, [.ref a0, .ref a1, .int 0, .ref a3, .ref a4, .ref a5, .ref a6, .ref a7, .ref a8, .ref a9])), (a0, .inl (G.2.1, 8, .inl (fun _ => 0))), (o, .inl (G.2.2.1, 1, .inr (.inl g)))] sz (sx_Qi G (fun (r : Int32) (u : Nat → Int64) => r = z_file p0 p1 ∧ (r = 0 → u 0 = 0)) (fun (u : Nat → Int64) => [(o, .inl (G.2.2.1, 1, .inr (.inl u)))])) := by
  refine sx_startW (by decide) rfl (fun p e s m below meth c A ls F hr hlk hnm htab hP hD hS hl => ?_)
  obtain ⟨hx, hb, hml, hown, hts, hK, hE, hA⟩ := id F
  have hown : s.vm.findClass RL = some m.cls := hown
  generalize hHe : s.heap = H at hP
  have hS : va_S A s.heap H [] := by rw [← hHe]; exact va_S.rf
  have hl : lv_has ls 5 [(0, .ref h), (1, .int p0), (2, .int p1), (3, .ref o)] := hl
  refine lv_aload_n hx hb dL_file_0 rfl (lv_at hl 3 rfl) ?_
  refine lv_iconst (v := 0) hx hb dL_file_1 (by decide) ?_
  refine lv_aload_n hx hb dL_file_2 rfl (lv_at hl 0 rfl) ?_
  refine lv_iload_n hx hb dL_file_3 rfl (lv_at hl 1 rfl) ?_
  refine lv_iload_n hx hb dL_file_4 rfl (lv_at hl 2 rfl) ?_
  have hcut : sx_cut [(h, .inr (9, [.ref b, .ref pl, .ref cr, .ref te, .ref ca])), (pl, .inr (6, [.ref a0, .ref a1, .int 0, .ref a3, .ref a4, .ref a5, .ref a6, .ref a7, .ref a8, .ref a9])), (a0, .inl (G.2.1, 8, .inl (fun _ => 0))), (o, .inl (G.2.2.1, 1, .inr (.inl g)))] [(h, .inr (9, [.ref b, .ref pl, .ref cr, .ref te, .ref ca])), (pl, .inr (6, [.ref a0, .ref a1, .int 0, .ref a3, .ref a4, .ref a5, .ref a6, .ref a7, .ref a8, .ref a9])), (a0, .inl (G.2.1, 8, .inl (fun _ => 0)))] [(o, .inl (G.2.2.1, 1, .inr (.inl g)))] [0, 1, 2] [3] := ⟨rfl, rfl, by decide, by decide, by decide⟩
  refine sx_xki (sx_xrunV (As := [.int p0, .int p1]) (rest := [.int 0, .ref o]) F (m_X7_file l hfl G H.size h b pl cr te ca a0 a1 a3 a4 a5 a6 a7 a8 a9 p0 p1) mi_X7_file q699 qs_X7_file q698 ⟨⟨Nat.le_of_ble_eq_true rfl, Nat.le_of_ble_eq_true rfl⟩, Nat.le_of_ble_eq_true rfl, Nat.le_of_ble_eq_true rfl⟩ hcut hP hD hS 0 9 rfl rfl rfl hl.1 rfl (Nat.le_of_ble_eq_true rfl) dL_file_5) hcut hP hD hS hA (fun E ce q9 H locs hw9 hP hD hS hce hcv hcl => ?_) (fun r_3 u_1 H locs w_2 hP hD hS => ?_)
  · have hP : va_P (sx_D G) vwCl [(o, .inl (G.2.2.1, 1, .inr (.inl g)))] H := hP
    have hD : va_D A [(o, .inl (G.2.2.1, 1, .inr (.inl g)))] := hD
    rcases hw9 with ⟨rfl, hz⟩ | ⟨rfl, hz⟩
    · refine vx_catch (own := RL) (E := "java/lang/IndexOutOfBoundsException") (name := "java/lang/IndexOutOfBoundsException") hown [] ({ startPc := 0, endPc := 10, handlerPc := 13, catchType := 21 } : ClassFile.ExceptionTableEntry) [({ startPc := 0, endPc := 10, handlerPc := 17, catchType := 13 } : ClassFile.ExceptionTableEntry)] htab (fun z hz9 => absurd hz9 List.not_mem_nil) (by decide) (by decide) (hts _ q697) (hts _ q461) hce hcv hcl ?_
      refine lv_astore (lv' := [(4, .ref q9), (0, .ref h), (1, .int p0), (2, .int p1), (3, .ref o)]) hx hb dL_file_13 hl (by decide) rfl (fun ls hl => ?_)
      refine lv_iconst (v := 1) hx hb dL_file_15 (by decide) ?_
      exact (sx_iret (v := 1) (g) hx hb hr rfl hlk hP hD hS ⟨hz.symm, fun h => absurd h (by decide)⟩ dL_file_16 rfl rfl)
    · refine vx_catch (own := RL) (E := "java/lang/IllegalArgumentException") (name := "java/lang/IllegalArgumentException") hown [({ startPc := 0, endPc := 10, handlerPc := 13, catchType := 21 } : ClassFile.ExceptionTableEntry)] ({ startPc := 0, endPc := 10, handlerPc := 17, catchType := 13 } : ClassFile.ExceptionTableEntry) [] htab (fun z hz9 => by rw [List.mem_singleton.mp hz9]; exact Or.inr ⟨by decide, _, hts _ q697, hE.2.2.2.2.2.2.2.1⟩) (by decide) (by decide) (hts _ q662) (hts _ q375) hce hcv hcl ?_
      refine lv_astore (lv' := [(4, .ref q9), (0, .ref h), (1, .int p0), (2, .int p1), (3, .ref o)]) hx hb dL_file_17 hl (by decide) rfl (fun ls hl => ?_)
      refine lv_iconst (v := 2) hx hb dL_file_19 (by decide) ?_
      exact (sx_iret (v := 2) (g) hx hb hr rfl hlk hP hD hS ⟨hz.symm, fun h => absurd h (by decide)⟩ dL_file_20 rfl rfl)
  · have hP : va_P (sx_D G) vwCl [(o, .inl (G.2.2.1, 1, .inr (.inl g)))] H := hP
    have hD : va_D A [(o, .inl (G.2.2.1, 1, .inr (.inl g)))] := hD
    refine lv_i2l hx hb dL_file_8 rfl ?_
    refine va_last (D := sx_D G) (tys := sx_tys G) hx hb hK hP hD hS 0 1 rfl rfl (vp_in_iff.mpr (by decide)) dL_file_9 (fun H locs hP hD hS => ?_)
    have hP : va_P (sx_D G) vwCl [(o, .inl (G.2.2.1, 1, .inr (.inl (vp_updL g (0 : Int32).toNatClampNeg r_3.toInt64))))] H := hP
    have hD : va_D A [(o, .inl (G.2.2.1, 1, .inr (.inl (vp_updL g (0 : Int32).toNatClampNeg r_3.toInt64))))] := hD
    refine lv_goto (tgt := 21) hx hb dL_file_10 (by decide) ?_
    refine lv_iconst (v := 0) hx hb dL_file_21 (by decide) ?_
    exact (sx_iret (v := 0) (vp_updL g (0 : Int32).toNatClampNeg r_3.toInt64) hx hb hr rfl hlk hP hD hS ⟨w_2.2.symm, fun _ => z_updz _ w_2.1⟩ dL_file_22 rfl rfl)
set_option maxHeartbeats 4000000 in
set_option maxRecDepth 100000 in
theorem m_L_set (l : Launch) (hfl : l.stackTraces = false) (G : sx_G) (sz : Nat) (h : Nat) (b : Nat) (pl : Nat) (cr : Nat) (te : Nat) (ca : Nat) (a0 : Nat) (a1 : Nat) (a3 : Nat) (a4 : Nat) (a5 : Nat) (a6 : Nat) (a7 : Nat) (a8 : Nat) (a9 : Nat) (p0 : Int32) (p1 : Int32) (o : Nat) (g : Nat → Int64) : sx_MetW l yL_set cL_set 5 (some .int) [(0, 10, 13, 21), (0, 10, 17, 13)] 8 126 2 12 G [.ref h, .int p0, .int p1, .ref o] [(h, .inr (9, [.ref b, .ref pl, .ref cr, .ref te, .ref ca])), (pl, .inr (6, [.ref a0, .ref a1, .int 0, .ref a3, .ref a4, .ref a5, .ref a6, .ref a7, .ref a8, .ref a9])), (a1, .inl (G.2.1, 6, .inl (fun _ => 0))), (o, .inl (G.2.2.1, 1, .inr (.inl g)))] sz (sx_Qi G (fun (r : Int32) (u : Nat → Int64) => r = z_set p0 p1 ∧ (r = 0 → u 0 = 0)) (fun (u : Nat → Int64) => [(o, .inl (G.2.2.1, 1, .inr (.inl u)))])) := by
  refine sx_startW (by decide) rfl (fun p e s m below meth c A ls F hr hlk hnm htab hP hD hS hl => ?_)
  obtain ⟨hx, hb, hml, hown, hts, hK, hE, hA⟩ := id F
  have hown : s.vm.findClass RL = some m.cls := hown
  generalize hHe : s.heap = H at hP
  have hS : va_S A s.heap H [] := by rw [← hHe]; exact va_S.rf
  have hl : lv_has ls 5 [(0, .ref h), (1, .int p0), (2, .int p1), (3, .ref o)] := hl
  refine lv_aload_n hx hb dL_set_0 rfl (lv_at hl 3 rfl) ?_
  refine lv_iconst (v := 0) hx hb dL_set_1 (by decide) ?_
  refine lv_aload_n hx hb dL_set_2 rfl (lv_at hl 0 rfl) ?_
  refine lv_iload_n hx hb dL_set_3 rfl (lv_at hl 1 rfl) ?_
  refine lv_iload_n hx hb dL_set_4 rfl (lv_at hl 2 rfl) ?_
  have hcut : sx_cut [(h, .inr (9, [.ref b, .ref pl, .ref cr, .ref te, .ref ca])), (pl, .inr (6, [.ref a0, .ref a1, .int 0, .ref a3, .ref a4, .ref a5, .ref a6, .ref a7, .ref a8, .ref a9])), (a1, .inl (G.2.1, 6, .inl (fun _ => 0))), (o, .inl (G.2.2.1, 1, .inr (.inl g)))] [(h, .inr (9, [.ref b, .ref pl, .ref cr, .ref te, .ref ca])), (pl, .inr (6, [.ref a0, .ref a1, .int 0, .ref a3, .ref a4, .ref a5, .ref a6, .ref a7, .ref a8, .ref a9])), (a1, .inl (G.2.1, 6, .inl (fun _ => 0)))] [(o, .inl (G.2.2.1, 1, .inr (.inl g)))] [0, 1, 2] [3] := ⟨rfl, rfl, by decide, by decide, by decide⟩
  refine sx_xki (sx_xrunV (As := [.int p0, .int p1]) (rest := [.int 0, .ref o]) F (m_X7_set l hfl G H.size h b pl cr te ca a0 a1 a3 a4 a5 a6 a7 a8 a9 p0 p1) mi_X7_set q706 qs_X7_set q705 ⟨⟨Nat.le_of_ble_eq_true rfl, Nat.le_of_ble_eq_true rfl⟩, Nat.le_of_ble_eq_true rfl, Nat.le_of_ble_eq_true rfl⟩ hcut hP hD hS 0 9 rfl rfl rfl hl.1 rfl (Nat.le_of_ble_eq_true rfl) dL_set_5) hcut hP hD hS hA (fun E ce q9 H locs hw9 hP hD hS hce hcv hcl => ?_) (fun r_3 u_1 H locs w_2 hP hD hS => ?_)
  · have hP : va_P (sx_D G) vwCl [(o, .inl (G.2.2.1, 1, .inr (.inl g)))] H := hP
    have hD : va_D A [(o, .inl (G.2.2.1, 1, .inr (.inl g)))] := hD
    rcases hw9 with ⟨rfl, hz⟩ | ⟨rfl, hz⟩
    · refine vx_catch (own := RL) (E := "java/lang/IndexOutOfBoundsException") (name := "java/lang/IndexOutOfBoundsException") hown [] ({ startPc := 0, endPc := 10, handlerPc := 13, catchType := 21 } : ClassFile.ExceptionTableEntry) [({ startPc := 0, endPc := 10, handlerPc := 17, catchType := 13 } : ClassFile.ExceptionTableEntry)] htab (fun z hz9 => absurd hz9 List.not_mem_nil) (by decide) (by decide) (hts _ q697) (hts _ q461) hce hcv hcl ?_
      refine lv_astore (lv' := [(4, .ref q9), (0, .ref h), (1, .int p0), (2, .int p1), (3, .ref o)]) hx hb dL_set_13 hl (by decide) rfl (fun ls hl => ?_)
      refine lv_iconst (v := 1) hx hb dL_set_15 (by decide) ?_
      exact (sx_iret (v := 1) (g) hx hb hr rfl hlk hP hD hS ⟨hz.symm, fun h => absurd h (by decide)⟩ dL_set_16 rfl rfl)
    · refine vx_catch (own := RL) (E := "java/lang/IllegalArgumentException") (name := "java/lang/IllegalArgumentException") hown [({ startPc := 0, endPc := 10, handlerPc := 13, catchType := 21 } : ClassFile.ExceptionTableEntry)] ({ startPc := 0, endPc := 10, handlerPc := 17, catchType := 13 } : ClassFile.ExceptionTableEntry) [] htab (fun z hz9 => by rw [List.mem_singleton.mp hz9]; exact Or.inr ⟨by decide, _, hts _ q697, hE.2.2.2.2.2.2.2.1⟩) (by decide) (by decide) (hts _ q662) (hts _ q375) hce hcv hcl ?_
      refine lv_astore (lv' := [(4, .ref q9), (0, .ref h), (1, .int p0), (2, .int p1), (3, .ref o)]) hx hb dL_set_17 hl (by decide) rfl (fun ls hl => ?_)
      refine lv_iconst (v := 2) hx hb dL_set_19 (by decide) ?_
      exact (sx_iret (v := 2) (g) hx hb hr rfl hlk hP hD hS ⟨hz.symm, fun h => absurd h (by decide)⟩ dL_set_20 rfl rfl)
  · have hP : va_P (sx_D G) vwCl [(o, .inl (G.2.2.1, 1, .inr (.inl g)))] H := hP
    have hD : va_D A [(o, .inl (G.2.2.1, 1, .inr (.inl g)))] := hD
    refine lv_i2l hx hb dL_set_8 rfl ?_
    refine va_last (D := sx_D G) (tys := sx_tys G) hx hb hK hP hD hS 0 1 rfl rfl (vp_in_iff.mpr (by decide)) dL_set_9 (fun H locs hP hD hS => ?_)
    have hP : va_P (sx_D G) vwCl [(o, .inl (G.2.2.1, 1, .inr (.inl (vp_updL g (0 : Int32).toNatClampNeg r_3.toInt64))))] H := hP
    have hD : va_D A [(o, .inl (G.2.2.1, 1, .inr (.inl (vp_updL g (0 : Int32).toNatClampNeg r_3.toInt64))))] := hD
    refine lv_goto (tgt := 21) hx hb dL_set_10 (by decide) ?_
    refine lv_iconst (v := 0) hx hb dL_set_21 (by decide) ?_
    exact (sx_iret (v := 0) (vp_updL g (0 : Int32).toNatClampNeg r_3.toInt64) hx hb hr rfl hlk hP hD hS ⟨w_2.2.symm, fun _ => z_updz _ w_2.1⟩ dL_set_22 rfl rfl)
set_option maxHeartbeats 4000000 in
set_option maxRecDepth 100000 in
theorem m_L_worker (l : Launch) (hfl : l.stackTraces = false) (G : sx_G) (sz : Nat) (h : Nat) (b : Nat) (pl : Nat) (cr : Nat) (te : Nat) (ca : Nat) (c1 : Nat) (c2 : Nat) (c3 : Nat) (c4 : Nat) (c5 : Nat) (p0 : Int32) (o : Nat) (g : Nat → Int64) : sx_MetW l yL_worker cL_worker 4 (some .int) [(0, 9, 12, 13), (0, 9, 15, 15)] 8 124 2 12 G [.ref h, .int p0, .ref o] [(h, .inr (9, [.ref b, .ref pl, .ref cr, .ref te, .ref ca])), (cr, .inr (4, [.int 0, .ref c1, .ref c2, .ref c3, .ref c4, .ref c5])), (c1, .inl (G.2.1, 4, .inl (fun _ => 0))), (c2, .inl (G.2.1, 4, .inl (fun _ => 0))), (o, .inl (G.2.2.1, 1, .inr (.inl g)))] sz (sx_Qi G (fun (r : Int32) (u : Nat → Int64) => r = z1 (zw 0 9 p0) ∧ (r = 0 → u 0 = 0)) (fun (u : Nat → Int64) => [(o, .inl (G.2.2.1, 1, .inr (.inl u)))])) := by
  refine sx_startW (by decide) rfl (fun p e s m below meth c A ls F hr hlk hnm htab hP hD hS hl => ?_)
  obtain ⟨hx, hb, hml, hown, hts, hK, hE, hA⟩ := id F
  have hown : s.vm.findClass RL = some m.cls := hown
  generalize hHe : s.heap = H at hP
  have hS : va_S A s.heap H [] := by rw [← hHe]; exact va_S.rf
  have hl : lv_has ls 4 [(0, .ref h), (1, .int p0), (2, .ref o)] := hl
  refine lv_aload_n hx hb dL_worker_0 rfl (lv_at hl 2 rfl) ?_
  refine lv_iconst (v := 0) hx hb dL_worker_1 (by decide) ?_
  refine lv_aload_n hx hb dL_worker_2 rfl (lv_at hl 0 rfl) ?_
  refine lv_iload_n hx hb dL_worker_3 rfl (lv_at hl 1 rfl) ?_
  have hcut : sx_cut [(h, .inr (9, [.ref b, .ref pl, .ref cr, .ref te, .ref ca])), (cr, .inr (4, [.int 0, .ref c1, .ref c2, .ref c3, .ref c4, .ref c5])), (c1, .inl (G.2.1, 4, .inl (fun _ => 0))), (c2, .inl (G.2.1, 4, .inl (fun _ => 0))), (o, .inl (G.2.2.1, 1, .inr (.inl g)))] [(h, .inr (9, [.ref b, .ref pl, .ref cr, .ref te, .ref ca])), (cr, .inr (4, [.int 0, .ref c1, .ref c2, .ref c3, .ref c4, .ref c5])), (c1, .inl (G.2.1, 4, .inl (fun _ => 0))), (c2, .inl (G.2.1, 4, .inl (fun _ => 0)))] [(o, .inl (G.2.2.1, 1, .inr (.inl g)))] [0, 1, 2, 3] [4] := ⟨rfl, rfl, by decide, by decide, by decide⟩
  refine sx_xki (sx_xrunV (As := [.int p0]) (rest := [.int 0, .ref o]) F (m_X7_worker l hfl G H.size h b pl cr te ca c1 c2 c3 c4 c5 p0) mi_X7_worker q717 qs_X7_worker q716 ⟨⟨Nat.le_of_ble_eq_true rfl, Nat.le_of_ble_eq_true rfl⟩, Nat.le_of_ble_eq_true rfl, Nat.le_of_ble_eq_true rfl⟩ hcut hP hD hS 0 9 rfl rfl rfl hl.1 rfl (Nat.le_of_ble_eq_true rfl) dL_worker_4) hcut hP hD hS hA (fun E ce q9 H locs hw9 hP hD hS hce hcv hcl => ?_) (fun r_3 u_1 H locs w_2 hP hD hS => ?_)
  · have hP : va_P (sx_D G) vwCl [(o, .inl (G.2.2.1, 1, .inr (.inl g)))] H := hP
    have hD : va_D A [(o, .inl (G.2.2.1, 1, .inr (.inl g)))] := hD
    obtain ⟨rfl, hz⟩ := hw9
    refine vx_catch (own := RL) (E := "java/lang/IllegalArgumentException") (name := "java/lang/IllegalArgumentException") hown [] ({ startPc := 0, endPc := 9, handlerPc := 12, catchType := 13 } : ClassFile.ExceptionTableEntry) [({ startPc := 0, endPc := 9, handlerPc := 15, catchType := 15 } : ClassFile.ExceptionTableEntry)] htab (fun z hz9 => absurd hz9 List.not_mem_nil) (by decide) (by decide) (hts _ q662) (hts _ q375) hce hcv hcl ?_
    refine lv_astore_n (lv' := [(3, .ref q9), (0, .ref h), (1, .int p0), (2, .ref o)]) hx hb dL_worker_12 rfl hl (by decide) rfl (fun ls hl => ?_)
    refine lv_iconst (v := 1) hx hb dL_worker_13 (by decide) ?_
    exact (sx_iret (v := 1) (g) hx hb hr rfl hlk hP hD hS ⟨hz.symm, fun h => absurd h (by decide)⟩ dL_worker_14 rfl rfl)
  · have hP : va_P (sx_D G) vwCl [(o, .inl (G.2.2.1, 1, .inr (.inl g)))] H := hP
    have hD : va_D A [(o, .inl (G.2.2.1, 1, .inr (.inl g)))] := hD
    refine lv_i2l hx hb dL_worker_7 rfl ?_
    refine va_last (D := sx_D G) (tys := sx_tys G) hx hb hK hP hD hS 0 1 rfl rfl (vp_in_iff.mpr (by decide)) dL_worker_8 (fun H locs hP hD hS => ?_)
    have hP : va_P (sx_D G) vwCl [(o, .inl (G.2.2.1, 1, .inr (.inl (vp_updL g (0 : Int32).toNatClampNeg r_3.toInt64))))] H := hP
    have hD : va_D A [(o, .inl (G.2.2.1, 1, .inr (.inl (vp_updL g (0 : Int32).toNatClampNeg r_3.toInt64))))] := hD
    refine lv_goto (tgt := 18) hx hb dL_worker_9 (by decide) ?_
    refine lv_iconst (v := 0) hx hb dL_worker_18 (by decide) ?_
    exact (sx_iret (v := 0) (vp_updL g (0 : Int32).toNatClampNeg r_3.toInt64) hx hb hr rfl hlk hP hD hS ⟨w_2.2.symm, fun _ => z_updz _ w_2.1⟩ dL_worker_19 rfl rfl)
set_option maxHeartbeats 4000000 in
set_option maxRecDepth 100000 in
theorem m_L_team (l : Launch) (hfl : l.stackTraces = false) (G : sx_G) (sz : Nat) (h : Nat) (b : Nat) (pl : Nat) (cr : Nat) (te : Nat) (ca : Nat) (t1 : Nat) (t2 : Nat) (t3 : Nat) (p0 : Int32) (o : Nat) (g : Nat → Int64) : sx_MetW l yL_team cL_team 4 (some .int) [(0, 9, 12, 13), (0, 9, 15, 15)] 8 124 2 12 G [.ref h, .int p0, .ref o] [(h, .inr (9, [.ref b, .ref pl, .ref cr, .ref te, .ref ca])), (te, .inr (8, [.int 0, .ref t1, .ref t2, .ref t3])), (t1, .inl (G.2.1, 4, .inl (fun _ => 0))), (o, .inl (G.2.2.1, 1, .inr (.inl g)))] sz (sx_Qi G (fun (r : Int32) (u : Nat → Int64) => r = z1 (zw 0 100 p0) ∧ (r = 0 → u 0 = 0)) (fun (u : Nat → Int64) => [(o, .inl (G.2.2.1, 1, .inr (.inl u)))])) := by
  refine sx_startW (by decide) rfl (fun p e s m below meth c A ls F hr hlk hnm htab hP hD hS hl => ?_)
  obtain ⟨hx, hb, hml, hown, hts, hK, hE, hA⟩ := id F
  have hown : s.vm.findClass RL = some m.cls := hown
  generalize hHe : s.heap = H at hP
  have hS : va_S A s.heap H [] := by rw [← hHe]; exact va_S.rf
  have hl : lv_has ls 4 [(0, .ref h), (1, .int p0), (2, .ref o)] := hl
  refine lv_aload_n hx hb dL_team_0 rfl (lv_at hl 2 rfl) ?_
  refine lv_iconst (v := 0) hx hb dL_team_1 (by decide) ?_
  refine lv_aload_n hx hb dL_team_2 rfl (lv_at hl 0 rfl) ?_
  refine lv_iload_n hx hb dL_team_3 rfl (lv_at hl 1 rfl) ?_
  have hcut : sx_cut [(h, .inr (9, [.ref b, .ref pl, .ref cr, .ref te, .ref ca])), (te, .inr (8, [.int 0, .ref t1, .ref t2, .ref t3])), (t1, .inl (G.2.1, 4, .inl (fun _ => 0))), (o, .inl (G.2.2.1, 1, .inr (.inl g)))] [(h, .inr (9, [.ref b, .ref pl, .ref cr, .ref te, .ref ca])), (te, .inr (8, [.int 0, .ref t1, .ref t2, .ref t3])), (t1, .inl (G.2.1, 4, .inl (fun _ => 0)))] [(o, .inl (G.2.2.1, 1, .inr (.inl g)))] [0, 1, 2] [3] := ⟨rfl, rfl, by decide, by decide, by decide⟩
  refine sx_xki (sx_xrunV (As := [.int p0]) (rest := [.int 0, .ref o]) F (m_X7_team l hfl G H.size h b pl cr te ca t1 t2 t3 p0) mi_X7_team q735 qs_X7_team q734 ⟨⟨Nat.le_of_ble_eq_true rfl, Nat.le_of_ble_eq_true rfl⟩, Nat.le_of_ble_eq_true rfl, Nat.le_of_ble_eq_true rfl⟩ hcut hP hD hS 0 9 rfl rfl rfl hl.1 rfl (Nat.le_of_ble_eq_true rfl) dL_team_4) hcut hP hD hS hA (fun E ce q9 H locs hw9 hP hD hS hce hcv hcl => ?_) (fun r_3 u_1 H locs w_2 hP hD hS => ?_)
  · have hP : va_P (sx_D G) vwCl [(o, .inl (G.2.2.1, 1, .inr (.inl g)))] H := hP
    have hD : va_D A [(o, .inl (G.2.2.1, 1, .inr (.inl g)))] := hD
    obtain ⟨rfl, hz⟩ := hw9
    refine vx_catch (own := RL) (E := "java/lang/IllegalArgumentException") (name := "java/lang/IllegalArgumentException") hown [] ({ startPc := 0, endPc := 9, handlerPc := 12, catchType := 13 } : ClassFile.ExceptionTableEntry) [({ startPc := 0, endPc := 9, handlerPc := 15, catchType := 15 } : ClassFile.ExceptionTableEntry)] htab (fun z hz9 => absurd hz9 List.not_mem_nil) (by decide) (by decide) (hts _ q662) (hts _ q375) hce hcv hcl ?_
    refine lv_astore_n (lv' := [(3, .ref q9), (0, .ref h), (1, .int p0), (2, .ref o)]) hx hb dL_team_12 rfl hl (by decide) rfl (fun ls hl => ?_)
    refine lv_iconst (v := 1) hx hb dL_team_13 (by decide) ?_
    exact (sx_iret (v := 1) (g) hx hb hr rfl hlk hP hD hS ⟨hz.symm, fun h => absurd h (by decide)⟩ dL_team_14 rfl rfl)
  · have hP : va_P (sx_D G) vwCl [(o, .inl (G.2.2.1, 1, .inr (.inl g)))] H := hP
    have hD : va_D A [(o, .inl (G.2.2.1, 1, .inr (.inl g)))] := hD
    refine lv_i2l hx hb dL_team_7 rfl ?_
    refine va_last (D := sx_D G) (tys := sx_tys G) hx hb hK hP hD hS 0 1 rfl rfl (vp_in_iff.mpr (by decide)) dL_team_8 (fun H locs hP hD hS => ?_)
    have hP : va_P (sx_D G) vwCl [(o, .inl (G.2.2.1, 1, .inr (.inl (vp_updL g (0 : Int32).toNatClampNeg r_3.toInt64))))] H := hP
    have hD : va_D A [(o, .inl (G.2.2.1, 1, .inr (.inl (vp_updL g (0 : Int32).toNatClampNeg r_3.toInt64))))] := hD
    refine lv_goto (tgt := 18) hx hb dL_team_9 (by decide) ?_
    refine lv_iconst (v := 0) hx hb dL_team_18 (by decide) ?_
    exact (sx_iret (v := 0) (vp_updL g (0 : Int32).toNatClampNeg r_3.toInt64) hx hb hr rfl hlk hP hD hS ⟨w_2.2.symm, fun _ => z_updz _ w_2.1⟩ dL_team_19 rfl rfl)
set_option maxHeartbeats 4000000 in
set_option maxRecDepth 100000 in
theorem m_L_check (l : Launch) (hfl : l.stackTraces = false) (G : sx_G) (sz : Nat) (h : Nat) (b : Nat) (pl : Nat) (cr : Nat) (te : Nat) (ca : Nat) (g0 : Nat) (s0 : Nat) (p0 : Int32) (o : Nat) (g : Nat → Int64) : sx_MetW l yL_check cL_check 4 (some .int) [(0, 9, 12, 13)] 8 124 1 6 G [.ref h, .int p0, .ref o] [(h, .inr (9, [.ref b, .ref pl, .ref cr, .ref te, .ref ca])), (b, .inr (2, [.ref pl, .ref cr, .ref te, .ref ca, .ref g0, .ref s0, .int 0, .int 0, .int 0])), (o, .inl (G.2.2.1, 1, .inr (.inl g)))] sz (sx_Qi G (fun (r : Int32) (u : Nat → Int64) => r = z1 (zw 0 9 p0) ∧ (r = 0 → u 0 = 0)) (fun (u : Nat → Int64) => [(o, .inl (G.2.2.1, 1, .inr (.inl u)))])) := by
  refine sx_startW (by decide) rfl (fun p e s m below meth c A ls F hr hlk hnm htab hP hD hS hl => ?_)
  obtain ⟨hx, hb, hml, hown, hts, hK, hE, hA⟩ := id F
  have hown : s.vm.findClass RL = some m.cls := hown
  generalize hHe : s.heap = H at hP
  have hS : va_S A s.heap H [] := by rw [← hHe]; exact va_S.rf
  have hl : lv_has ls 4 [(0, .ref h), (1, .int p0), (2, .ref o)] := hl
  refine lv_aload_n hx hb dL_check_0 rfl (lv_at hl 2 rfl) ?_
  refine lv_iconst (v := 0) hx hb dL_check_1 (by decide) ?_
  refine lv_aload_n hx hb dL_check_2 rfl (lv_at hl 0 rfl) ?_
  refine lv_iload_n hx hb dL_check_3 rfl (lv_at hl 1 rfl) ?_
  have hcut : sx_cut [(h, .inr (9, [.ref b, .ref pl, .ref cr, .ref te, .ref ca])), (b, .inr (2, [.ref pl, .ref cr, .ref te, .ref ca, .ref g0, .ref s0, .int 0, .int 0, .int 0])), (o, .inl (G.2.2.1, 1, .inr (.inl g)))] [(h, .inr (9, [.ref b, .ref pl, .ref cr, .ref te, .ref ca])), (b, .inr (2, [.ref pl, .ref cr, .ref te, .ref ca, .ref g0, .ref s0, .int 0, .int 0, .int 0]))] [(o, .inl (G.2.2.1, 1, .inr (.inl g)))] [0, 1] [2] := ⟨rfl, rfl, by decide, by decide, by decide⟩
  refine sx_xki (sx_xrunV (As := [.int p0]) (rest := [.int 0, .ref o]) F (m_X7_check l hfl G H.size h b pl cr te ca g0 s0 p0) mi_X7_check q765 qs_X7_check q764 ⟨⟨Nat.le_of_ble_eq_true rfl, Nat.le_of_ble_eq_true rfl⟩, Nat.le_of_ble_eq_true rfl, Nat.le_of_ble_eq_true rfl⟩ hcut hP hD hS 0 9 rfl rfl rfl hl.1 rfl (Nat.le_of_ble_eq_true rfl) dL_check_4) hcut hP hD hS hA (fun E ce q9 H locs hw9 hP hD hS hce hcv hcl => ?_) (fun r_3 u_1 H locs w_2 hP hD hS => ?_)
  · have hP : va_P (sx_D G) vwCl [(o, .inl (G.2.2.1, 1, .inr (.inl g)))] H := hP
    have hD : va_D A [(o, .inl (G.2.2.1, 1, .inr (.inl g)))] := hD
    obtain ⟨rfl, hz⟩ := hw9
    refine vx_catch (own := RL) (E := "java/lang/IllegalArgumentException") (name := "java/lang/IllegalArgumentException") hown [] ({ startPc := 0, endPc := 9, handlerPc := 12, catchType := 13 } : ClassFile.ExceptionTableEntry) [] htab (fun z hz9 => absurd hz9 List.not_mem_nil) (by decide) (by decide) (hts _ q662) (hts _ q375) hce hcv hcl ?_
    refine lv_astore_n (lv' := [(3, .ref q9), (0, .ref h), (1, .int p0), (2, .ref o)]) hx hb dL_check_12 rfl hl (by decide) rfl (fun ls hl => ?_)
    refine lv_iconst (v := 1) hx hb dL_check_13 (by decide) ?_
    exact (sx_iret (v := 1) (g) hx hb hr rfl hlk hP hD hS ⟨hz.symm, fun h => absurd h (by decide)⟩ dL_check_14 rfl rfl)
  · have hP : va_P (sx_D G) vwCl [(o, .inl (G.2.2.1, 1, .inr (.inl g)))] H := hP
    have hD : va_D A [(o, .inl (G.2.2.1, 1, .inr (.inl g)))] := hD
    refine lv_i2l hx hb dL_check_7 rfl ?_
    refine va_last (D := sx_D G) (tys := sx_tys G) hx hb hK hP hD hS 0 1 rfl rfl (vp_in_iff.mpr (by decide)) dL_check_8 (fun H locs hP hD hS => ?_)
    have hP : va_P (sx_D G) vwCl [(o, .inl (G.2.2.1, 1, .inr (.inl (vp_updL g (0 : Int32).toNatClampNeg r_3.toInt64))))] H := hP
    have hD : va_D A [(o, .inl (G.2.2.1, 1, .inr (.inl (vp_updL g (0 : Int32).toNatClampNeg r_3.toInt64))))] := hD
    refine lv_goto (tgt := 15) hx hb dL_check_9 (by decide) ?_
    refine lv_iconst (v := 0) hx hb dL_check_15 (by decide) ?_
    exact (sx_iret (v := 0) (vp_updL g (0 : Int32).toNatClampNeg r_3.toInt64) hx hb hr rfl hlk hP hD hS ⟨w_2.2.symm, fun _ => z_updz _ w_2.1⟩ dL_check_16 rfl rfl)
set_option maxHeartbeats 4000000 in
set_option maxRecDepth 100000 in
theorem m_L_many (l : Launch) (hfl : l.stackTraces = false) (G : sx_G) (sz : Nat) (h : Nat) (b : Nat) (pl : Nat) (cr : Nat) (te : Nat) (ca : Nat) (a0 : Nat) (a1 : Nat) (a3 : Nat) (a4 : Nat) (a5 : Nat) (a6 : Nat) (a7 : Nat) (a8 : Nat) (a9 : Nat) (c1 : Nat) (c2 : Nat) (c3 : Nat) (c4 : Nat) (c5 : Nat) (t1 : Nat) (t2 : Nat) (t3 : Nat) (k2 : Nat) (k3 : Nat) (k4 : Nat) (k5 : Nat) (k6 : Nat) (k7 : Nat) (k8 : Nat) (k9 : Nat) (k10 : Nat) (k11 : Nat) (k12 : Nat) (k13 : Nat) (k14 : Nat) (p0 : Int32) (o : Nat) (g : Nat → Int64) : sx_MetW l yL_many cL_many 4 (some .int) [(0, 9, 12, 13)] 8 123 1 6 G [.ref h, .int p0, .ref o] [(h, .inr (9, [.ref b, .ref pl, .ref cr, .ref te, .ref ca])), (pl, .inr (6, [.ref a0, .ref a1, .int 0, .ref a3, .ref a4, .ref a5, .ref a6, .ref a7, .ref a8, .ref a9])), (cr, .inr (4, [.int 0, .ref c1, .ref c2, .ref c3, .ref c4, .ref c5])), (te, .inr (8, [.int 0, .ref t1, .ref t2, .ref t3])), (ca, .inr (3, [.int 0, .int 0, .ref k2, .ref k3, .ref k4, .ref k5, .ref k6, .ref k7, .ref k8, .ref k9, .ref k10, .ref k11, .ref k12, .ref k13, .ref k14])), (o, .inl (G.2.2.1, 1, .inr (.inl g)))] sz (sx_Qi G (fun (r : Int32) (u : Nat → Int64) => r = z1 (zw 0 9 p0) ∧ (r = 0 → u 0 = 0)) (fun (u : Nat → Int64) => [(o, .inl (G.2.2.1, 1, .inr (.inl u)))])) := by
  refine sx_startW (by decide) rfl (fun p e s m below meth c A ls F hr hlk hnm htab hP hD hS hl => ?_)
  obtain ⟨hx, hb, hml, hown, hts, hK, hE, hA⟩ := id F
  have hown : s.vm.findClass RL = some m.cls := hown
  generalize hHe : s.heap = H at hP
  have hS : va_S A s.heap H [] := by rw [← hHe]; exact va_S.rf
  have hl : lv_has ls 4 [(0, .ref h), (1, .int p0), (2, .ref o)] := hl
  refine lv_aload_n hx hb dL_many_0 rfl (lv_at hl 2 rfl) ?_
  refine lv_iconst (v := 0) hx hb dL_many_1 (by decide) ?_
  refine lv_aload_n hx hb dL_many_2 rfl (lv_at hl 0 rfl) ?_
  refine lv_iload_n hx hb dL_many_3 rfl (lv_at hl 1 rfl) ?_
  have hcut : sx_cut [(h, .inr (9, [.ref b, .ref pl, .ref cr, .ref te, .ref ca])), (pl, .inr (6, [.ref a0, .ref a1, .int 0, .ref a3, .ref a4, .ref a5, .ref a6, .ref a7, .ref a8, .ref a9])), (cr, .inr (4, [.int 0, .ref c1, .ref c2, .ref c3, .ref c4, .ref c5])), (te, .inr (8, [.int 0, .ref t1, .ref t2, .ref t3])), (ca, .inr (3, [.int 0, .int 0, .ref k2, .ref k3, .ref k4, .ref k5, .ref k6, .ref k7, .ref k8, .ref k9, .ref k10, .ref k11, .ref k12, .ref k13, .ref k14])), (o, .inl (G.2.2.1, 1, .inr (.inl g)))] [(h, .inr (9, [.ref b, .ref pl, .ref cr, .ref te, .ref ca])), (pl, .inr (6, [.ref a0, .ref a1, .int 0, .ref a3, .ref a4, .ref a5, .ref a6, .ref a7, .ref a8, .ref a9])), (cr, .inr (4, [.int 0, .ref c1, .ref c2, .ref c3, .ref c4, .ref c5])), (te, .inr (8, [.int 0, .ref t1, .ref t2, .ref t3])), (ca, .inr (3, [.int 0, .int 0, .ref k2, .ref k3, .ref k4, .ref k5, .ref k6, .ref k7, .ref k8, .ref k9, .ref k10, .ref k11, .ref k12, .ref k13, .ref k14]))] [(o, .inl (G.2.2.1, 1, .inr (.inl g)))] [0, 1, 2, 3, 4] [5] := ⟨rfl, rfl, by decide, by decide, by decide⟩
  refine sx_xki (sx_xrunV (As := [.int p0]) (rest := [.int 0, .ref o]) F (m_X7_many l hfl G H.size h b pl cr te ca a0 a1 a3 a4 a5 a6 a7 a8 a9 c1 c2 c3 c4 c5 t1 t2 t3 k2 k3 k4 k5 k6 k7 k8 k9 k10 k11 k12 k13 k14 p0) mi_X7_many q364 qs_X7_many q795 ⟨⟨Nat.le_of_ble_eq_true rfl, Nat.le_of_ble_eq_true rfl⟩, Nat.le_of_ble_eq_true rfl, Nat.le_of_ble_eq_true rfl⟩ hcut hP hD hS 0 9 rfl rfl rfl hl.1 rfl (Nat.le_of_ble_eq_true rfl) dL_many_4) hcut hP hD hS hA (fun E ce q9 H locs hw9 hP hD hS hce hcv hcl => ?_) (fun r_3 u_1 H locs w_2 hP hD hS => ?_)
  · have hP : va_P (sx_D G) vwCl [(o, .inl (G.2.2.1, 1, .inr (.inl g)))] H := hP
    have hD : va_D A [(o, .inl (G.2.2.1, 1, .inr (.inl g)))] := hD
    obtain ⟨rfl, hz⟩ := hw9
    refine vx_catch (own := RL) (E := "java/lang/IllegalArgumentException") (name := "java/lang/IllegalArgumentException") hown [] ({ startPc := 0, endPc := 9, handlerPc := 12, catchType := 13 } : ClassFile.ExceptionTableEntry) [] htab (fun z hz9 => absurd hz9 List.not_mem_nil) (by decide) (by decide) (hts _ q662) (hts _ q375) hce hcv hcl ?_
    refine lv_astore_n (lv' := [(3, .ref q9), (0, .ref h), (1, .int p0), (2, .ref o)]) hx hb dL_many_12 rfl hl (by decide) rfl (fun ls hl => ?_)
    refine lv_iconst (v := 1) hx hb dL_many_13 (by decide) ?_
    exact (sx_iret (v := 1) (g) hx hb hr rfl hlk hP hD hS ⟨hz.symm, fun h => absurd h (by decide)⟩ dL_many_14 rfl rfl)
  · have hP : va_P (sx_D G) vwCl [(o, .inl (G.2.2.1, 1, .inr (.inl g))), (h, .inr (9, [.ref b, .ref pl, .ref cr, .ref te, .ref ca])), (pl, .inr (6, [.ref a0, .ref a1, .int 0, .ref a3, .ref a4, .ref a5, .ref a6, .ref a7, .ref a8, .ref a9])), (cr, .inr (4, [.int 0, .ref c1, .ref c2, .ref c3, .ref c4, .ref c5])), (te, .inr (8, [.int 0, .ref t1, .ref t2, .ref t3])), (ca, .inr (3, [.int 0, .int 0, .ref k2, .ref k3, .ref k4, .ref k5, .ref k6, .ref k7, .ref k8, .ref k9, .ref k10, .ref k11, .ref k12, .ref k13, .ref k14]))] H := hP
    have hD : va_D A [(o, .inl (G.2.2.1, 1, .inr (.inl g))), (h, .inr (9, [.ref b, .ref pl, .ref cr, .ref te, .ref ca])), (pl, .inr (6, [.ref a0, .ref a1, .int 0, .ref a3, .ref a4, .ref a5, .ref a6, .ref a7, .ref a8, .ref a9])), (cr, .inr (4, [.int 0, .ref c1, .ref c2, .ref c3, .ref c4, .ref c5])), (te, .inr (8, [.int 0, .ref t1, .ref t2, .ref t3])), (ca, .inr (3, [.int 0, .int 0, .ref k2, .ref k3, .ref k4, .ref k5, .ref k6, .ref k7, .ref k8, .ref k9, .ref k10, .ref k11, .ref k12, .ref k13, .ref k14]))] := hD
    have er_3 : r_3 = 0 := w_2.1
    subst er_3
    refine lv_i2l (v := 0) hx hb dL_many_7 (by decide) ?_
    refine va_last (D := sx_D G) (tys := sx_tys G) hx hb hK hP hD hS 0 1 rfl rfl (vp_in_iff.mpr (by decide)) dL_many_8 (fun H locs hP hD hS => ?_)
    have hP : va_P (sx_D G) vwCl [(o, .inl (G.2.2.1, 1, .inr (.inl (vp_updL g (0 : Int32).toNatClampNeg 0)))), (h, .inr (9, [.ref b, .ref pl, .ref cr, .ref te, .ref ca])), (pl, .inr (6, [.ref a0, .ref a1, .int 0, .ref a3, .ref a4, .ref a5, .ref a6, .ref a7, .ref a8, .ref a9])), (cr, .inr (4, [.int 0, .ref c1, .ref c2, .ref c3, .ref c4, .ref c5])), (te, .inr (8, [.int 0, .ref t1, .ref t2, .ref t3])), (ca, .inr (3, [.int 0, .int 0, .ref k2, .ref k3, .ref k4, .ref k5, .ref k6, .ref k7, .ref k8, .ref k9, .ref k10, .ref k11, .ref k12, .ref k13, .ref k14]))] H := hP
    have hD : va_D A [(o, .inl (G.2.2.1, 1, .inr (.inl (vp_updL g (0 : Int32).toNatClampNeg 0)))), (h, .inr (9, [.ref b, .ref pl, .ref cr, .ref te, .ref ca])), (pl, .inr (6, [.ref a0, .ref a1, .int 0, .ref a3, .ref a4, .ref a5, .ref a6, .ref a7, .ref a8, .ref a9])), (cr, .inr (4, [.int 0, .ref c1, .ref c2, .ref c3, .ref c4, .ref c5])), (te, .inr (8, [.int 0, .ref t1, .ref t2, .ref t3])), (ca, .inr (3, [.int 0, .int 0, .ref k2, .ref k3, .ref k4, .ref k5, .ref k6, .ref k7, .ref k8, .ref k9, .ref k10, .ref k11, .ref k12, .ref k13, .ref k14]))] := hD
    refine lv_goto (tgt := 15) hx hb dL_many_9 (by decide) ?_
    refine lv_iconst (v := 0) hx hb dL_many_15 (by decide) ?_
    have hP := hP.sub (ws' := [(o, .inl (G.2.2.1, 1, .inr (.inl (vp_updL g (0 : Int32).toNatClampNeg 0))))]) [0] rfl
    have hD := hD.sub (ws' := [(o, .inl (G.2.2.1, 1, .inr (.inl (vp_updL g (0 : Int32).toNatClampNeg 0))))]) [0] (by decide) rfl
    exact (sx_iret (v := 0) (vp_updL g (0 : Int32).toNatClampNeg 0) hx hb hr rfl hlk hP hD hS ⟨w_2.2.symm, fun _ => z_updz _ w_2.1⟩ dL_many_16 rfl rfl)
set_option maxHeartbeats 4000000 in
set_option maxRecDepth 100000 in
theorem m_L_touched (l : Launch) (hfl : l.stackTraces = false) (G : sx_G) (sz : Nat) (h : Nat) (b : Nat) (pl : Nat) (cr : Nat) (te : Nat) (ca : Nat) (a0 : Nat) (a1 : Nat) (a3 : Nat) (a4 : Nat) (a5 : Nat) (a6 : Nat) (a7 : Nat) (a8 : Nat) (a9 : Nat) (k2 : Nat) (k3 : Nat) (k4 : Nat) (k5 : Nat) (k6 : Nat) (k7 : Nat) (k8 : Nat) (k9 : Nat) (k10 : Nat) (k11 : Nat) (k12 : Nat) (k13 : Nat) (k14 : Nat) (p0 : Int32) (o : Nat) (g : Nat → Int64) : sx_MetW l yL_touched cL_touched 4 (some .int) [(0, 9, 12, 21)] 8 124 1 6 G [.ref h, .int p0, .ref o] [(h, .inr (9, [.ref b, .ref pl, .ref cr, .ref te, .ref ca])), (pl, .inr (6, [.ref a0, .ref a1, .int 0, .ref a3, .ref a4, .ref a5, .ref a6, .ref a7, .ref a8, .ref a9])), (ca, .inr (3, [.int 0, .int 0, .ref k2, .ref k3, .ref k4, .ref k5, .ref k6, .ref k7, .ref k8, .ref k9, .ref k10, .ref k11, .ref k12, .ref k13, .ref k14])), (o, .inl (G.2.2.1, 1, .inr (.inl g)))] sz (sx_Qi G (fun (r : Int32) (u : Nat → Int64) => r = z1 (zw 0 7 p0) ∧ (r = 0 → u 0 = 0)) (fun (u : Nat → Int64) => [(o, .inl (G.2.2.1, 1, .inr (.inl u)))])) := by
  refine sx_startW (by decide) rfl (fun p e s m below meth c A ls F hr hlk hnm htab hP hD hS hl => ?_)
  obtain ⟨hx, hb, hml, hown, hts, hK, hE, hA⟩ := id F
  have hown : s.vm.findClass RL = some m.cls := hown
  generalize hHe : s.heap = H at hP
  have hS : va_S A s.heap H [] := by rw [← hHe]; exact va_S.rf
  have hl : lv_has ls 4 [(0, .ref h), (1, .int p0), (2, .ref o)] := hl
  refine lv_aload_n hx hb dL_touched_0 rfl (lv_at hl 2 rfl) ?_
  refine lv_iconst (v := 0) hx hb dL_touched_1 (by decide) ?_
  refine lv_aload_n hx hb dL_touched_2 rfl (lv_at hl 0 rfl) ?_
  refine lv_iload_n hx hb dL_touched_3 rfl (lv_at hl 1 rfl) ?_
  have hcut : sx_cut [(h, .inr (9, [.ref b, .ref pl, .ref cr, .ref te, .ref ca])), (pl, .inr (6, [.ref a0, .ref a1, .int 0, .ref a3, .ref a4, .ref a5, .ref a6, .ref a7, .ref a8, .ref a9])), (ca, .inr (3, [.int 0, .int 0, .ref k2, .ref k3, .ref k4, .ref k5, .ref k6, .ref k7, .ref k8, .ref k9, .ref k10, .ref k11, .ref k12, .ref k13, .ref k14])), (o, .inl (G.2.2.1, 1, .inr (.inl g)))] [(h, .inr (9, [.ref b, .ref pl, .ref cr, .ref te, .ref ca])), (pl, .inr (6, [.ref a0, .ref a1, .int 0, .ref a3, .ref a4, .ref a5, .ref a6, .ref a7, .ref a8, .ref a9])), (ca, .inr (3, [.int 0, .int 0, .ref k2, .ref k3, .ref k4, .ref k5, .ref k6, .ref k7, .ref k8, .ref k9, .ref k10, .ref k11, .ref k12, .ref k13, .ref k14]))] [(o, .inl (G.2.2.1, 1, .inr (.inl g)))] [0, 1, 2] [3] := ⟨rfl, rfl, by decide, by decide, by decide⟩
  refine sx_xki (sx_xrunV (As := [.int p0]) (rest := [.int 0, .ref o]) F (m_X7_touched l hfl G H.size h b pl cr te ca a0 a1 a3 a4 a5 a6 a7 a8 a9 k2 k3 k4 k5 k6 k7 k8 k9 k10 k11 k12 k13 k14 p0) mi_X7_touched q652 qs_X7_touched q818 ⟨⟨Nat.le_of_ble_eq_true rfl, Nat.le_of_ble_eq_true rfl⟩, Nat.le_of_ble_eq_true rfl, Nat.le_of_ble_eq_true rfl⟩ hcut hP hD hS 0 9 rfl rfl rfl hl.1 rfl (Nat.le_of_ble_eq_true rfl) dL_touched_4) hcut hP hD hS hA (fun E ce q9 H locs hw9 hP hD hS hce hcv hcl => ?_) (fun r_3 u_1 H locs w_2 hP hD hS => ?_)
  · have hP : va_P (sx_D G) vwCl [(o, .inl (G.2.2.1, 1, .inr (.inl g)))] H := hP
    have hD : va_D A [(o, .inl (G.2.2.1, 1, .inr (.inl g)))] := hD
    obtain ⟨rfl, hz⟩ := hw9
    refine vx_catch (own := RL) (E := "java/lang/IndexOutOfBoundsException") (name := "java/lang/IndexOutOfBoundsException") hown [] ({ startPc := 0, endPc := 9, handlerPc := 12, catchType := 21 } : ClassFile.ExceptionTableEntry) [] htab (fun z hz9 => absurd hz9 List.not_mem_nil) (by decide) (by decide) (hts _ q697) (hts _ q461) hce hcv hcl ?_
    refine lv_astore_n (lv' := [(3, .ref q9), (0, .ref h), (1, .int p0), (2, .ref o)]) hx hb dL_touched_12 rfl hl (by decide) rfl (fun ls hl => ?_)
    refine lv_iconst (v := 1) hx hb dL_touched_13 (by decide) ?_
    exact (sx_iret (v := 1) (g) hx hb hr rfl hlk hP hD hS ⟨hz.symm, fun h => absurd h (by decide)⟩ dL_touched_14 rfl rfl)
  · have hP : va_P (sx_D G) vwCl [(o, .inl (G.2.2.1, 1, .inr (.inl g))), (h, .inr (9, [.ref b, .ref pl, .ref cr, .ref te, .ref ca])), (pl, .inr (6, [.ref a0, .ref a1, .int 0, .ref a3, .ref a4, .ref a5, .ref a6, .ref a7, .ref a8, .ref a9])), (ca, .inr (3, [.int 0, .int 0, .ref k2, .ref k3, .ref k4, .ref k5, .ref k6, .ref k7, .ref k8, .ref k9, .ref k10, .ref k11, .ref k12, .ref k13, .ref k14]))] H := hP
    have hD : va_D A [(o, .inl (G.2.2.1, 1, .inr (.inl g))), (h, .inr (9, [.ref b, .ref pl, .ref cr, .ref te, .ref ca])), (pl, .inr (6, [.ref a0, .ref a1, .int 0, .ref a3, .ref a4, .ref a5, .ref a6, .ref a7, .ref a8, .ref a9])), (ca, .inr (3, [.int 0, .int 0, .ref k2, .ref k3, .ref k4, .ref k5, .ref k6, .ref k7, .ref k8, .ref k9, .ref k10, .ref k11, .ref k12, .ref k13, .ref k14]))] := hD
    have er_3 : r_3 = 0 := w_2.1
    subst er_3
    refine lv_i2l (v := 0) hx hb dL_touched_7 (by decide) ?_
    refine va_last (D := sx_D G) (tys := sx_tys G) hx hb hK hP hD hS 0 1 rfl rfl (vp_in_iff.mpr (by decide)) dL_touched_8 (fun H locs hP hD hS => ?_)
    have hP : va_P (sx_D G) vwCl [(o, .inl (G.2.2.1, 1, .inr (.inl (vp_updL g (0 : Int32).toNatClampNeg 0)))), (h, .inr (9, [.ref b, .ref pl, .ref cr, .ref te, .ref ca])), (pl, .inr (6, [.ref a0, .ref a1, .int 0, .ref a3, .ref a4, .ref a5, .ref a6, .ref a7, .ref a8, .ref a9])), (ca, .inr (3, [.int 0, .int 0, .ref k2, .ref k3, .ref k4, .ref k5, .ref k6, .ref k7, .ref k8, .ref k9, .ref k10, .ref k11, .ref k12, .ref k13, .ref k14]))] H := hP
    have hD : va_D A [(o, .inl (G.2.2.1, 1, .inr (.inl (vp_updL g (0 : Int32).toNatClampNeg 0)))), (h, .inr (9, [.ref b, .ref pl, .ref cr, .ref te, .ref ca])), (pl, .inr (6, [.ref a0, .ref a1, .int 0, .ref a3, .ref a4, .ref a5, .ref a6, .ref a7, .ref a8, .ref a9])), (ca, .inr (3, [.int 0, .int 0, .ref k2, .ref k3, .ref k4, .ref k5, .ref k6, .ref k7, .ref k8, .ref k9, .ref k10, .ref k11, .ref k12, .ref k13, .ref k14]))] := hD
    refine lv_goto (tgt := 15) hx hb dL_touched_9 (by decide) ?_
    refine lv_iconst (v := 0) hx hb dL_touched_15 (by decide) ?_
    have hP := hP.sub (ws' := [(o, .inl (G.2.2.1, 1, .inr (.inl (vp_updL g (0 : Int32).toNatClampNeg 0))))]) [0] rfl
    have hD := hD.sub (ws' := [(o, .inl (G.2.2.1, 1, .inr (.inl (vp_updL g (0 : Int32).toNatClampNeg 0))))]) [0] (by decide) rfl
    exact (sx_iret (v := 0) (vp_updL g (0 : Int32).toNatClampNeg 0) hx hb hr rfl hlk hP hD hS ⟨w_2.2.symm, fun _ => z_updz _ w_2.1⟩ dL_touched_16 rfl rfl)
set_option maxHeartbeats 4000000 in
set_option maxRecDepth 100000 in
theorem m_L_ofAction (l : Launch) (hfl : l.stackTraces = false) (G : sx_G) (sz : Nat) (h : Nat) (b : Nat) (pl : Nat) (cr : Nat) (te : Nat) (ca : Nat) (a0 : Nat) (a1 : Nat) (a3 : Nat) (a4 : Nat) (a5 : Nat) (a6 : Nat) (a7 : Nat) (a8 : Nat) (a9 : Nat) (p0 : Int32) (p1 : Int32) (o : Nat) (g : Nat → Int64) : sx_MetW l yL_ofAction cL_ofAction 5 (some .int) [(0, 10, 13, 21), (0, 10, 17, 13)] 8 125 1 6 G [.ref h, .int p0, .int p1, .ref o] [(h, .inr (9, [.ref b, .ref pl, .ref cr, .ref te, .ref ca])), (pl, .inr (6, [.ref a0, .ref a1, .int 0, .ref a3, .ref a4, .ref a5, .ref a6, .ref a7, .ref a8, .ref a9])), (o, .inl (G.2.2.1, 1, .inr (.inl g)))] sz (sx_Qi G (fun (r : Int32) (u : Nat → Int64) => r = 1 ∧ (r = 0 → u 0 = 0)) (fun (u : Nat → Int64) => [(o, .inl (G.2.2.1, 1, .inr (.inl u)))])) := by
  refine sx_startW (by decide) rfl (fun p e s m below meth c A ls F hr hlk hnm htab hP hD hS hl => ?_)
  obtain ⟨hx, hb, hml, hown, hts, hK, hE, hA⟩ := id F
  have hown : s.vm.findClass RL = some m.cls := hown
  generalize hHe : s.heap = H at hP
  have hS : va_S A s.heap H [] := by rw [← hHe]; exact va_S.rf
  have hl : lv_has ls 5 [(0, .ref h), (1, .int p0), (2, .int p1), (3, .ref o)] := hl
  refine lv_aload_n hx hb dL_ofAction_0 rfl (lv_at hl 3 rfl) ?_
  refine lv_iconst (v := 0) hx hb dL_ofAction_1 (by decide) ?_
  refine lv_aload_n hx hb dL_ofAction_2 rfl (lv_at hl 0 rfl) ?_
  refine lv_iload_n hx hb dL_ofAction_3 rfl (lv_at hl 1 rfl) ?_
  refine lv_iload_n hx hb dL_ofAction_4 rfl (lv_at hl 2 rfl) ?_
  have hcut : sx_cut [(h, .inr (9, [.ref b, .ref pl, .ref cr, .ref te, .ref ca])), (pl, .inr (6, [.ref a0, .ref a1, .int 0, .ref a3, .ref a4, .ref a5, .ref a6, .ref a7, .ref a8, .ref a9])), (o, .inl (G.2.2.1, 1, .inr (.inl g)))] [(h, .inr (9, [.ref b, .ref pl, .ref cr, .ref te, .ref ca])), (pl, .inr (6, [.ref a0, .ref a1, .int 0, .ref a3, .ref a4, .ref a5, .ref a6, .ref a7, .ref a8, .ref a9]))] [(o, .inl (G.2.2.1, 1, .inr (.inl g)))] [0, 1] [2] := ⟨rfl, rfl, by decide, by decide, by decide⟩
  refine sx_xki (sx_xrunV (As := [.int p0, .int p1]) (rest := [.int 0, .ref o]) F (m_X7_ofAction l hfl G H.size h b pl cr te ca a0 a1 a3 a4 a5 a6 a7 a8 a9 p0 p1) mi_X7_ofAction q450 qs_X7_ofAction q712 ⟨⟨Nat.le_of_ble_eq_true rfl, Nat.le_of_ble_eq_true rfl⟩, Nat.le_of_ble_eq_true rfl, Nat.le_of_ble_eq_true rfl⟩ hcut hP hD hS 0 9 rfl rfl rfl hl.1 rfl (Nat.le_of_ble_eq_true rfl) dL_ofAction_5) hcut hP hD hS hA (fun E ce q9 H locs hw9 hP hD hS hce hcv hcl => ?_) (fun r_3 u_1 H locs w_2 hP hD hS => ?_)
  · have hP : va_P (sx_D G) vwCl [(o, .inl (G.2.2.1, 1, .inr (.inl g)))] H := hP
    have hD : va_D A [(o, .inl (G.2.2.1, 1, .inr (.inl g)))] := hD
    subst hw9
    refine vx_catch (own := RL) (E := "java/lang/IndexOutOfBoundsException") (name := "java/lang/IndexOutOfBoundsException") hown [] ({ startPc := 0, endPc := 10, handlerPc := 13, catchType := 21 } : ClassFile.ExceptionTableEntry) [({ startPc := 0, endPc := 10, handlerPc := 17, catchType := 13 } : ClassFile.ExceptionTableEntry)] htab (fun z hz9 => absurd hz9 List.not_mem_nil) (by decide) (by decide) (hts _ q697) (hts _ q461) hce hcv hcl ?_
    refine lv_astore (lv' := [(4, .ref q9), (0, .ref h), (1, .int p0), (2, .int p1), (3, .ref o)]) hx hb dL_ofAction_13 hl (by decide) rfl (fun ls hl => ?_)
    refine lv_iconst (v := 1) hx hb dL_ofAction_15 (by decide) ?_
    exact (sx_iret (v := 1) (g) hx hb hr rfl hlk hP hD hS ⟨rfl, fun h => absurd h (by decide)⟩ dL_ofAction_16 rfl rfl)
  · have hP : va_P (sx_D G) vwCl [(o, .inl (G.2.2.1, 1, .inr (.inl g)))] H := hP
    have hD : va_D A [(o, .inl (G.2.2.1, 1, .inr (.inl g)))] := hD
    exact w_2.elim
set_option maxHeartbeats 4000000 in
set_option maxRecDepth 100000 in
theorem m_L_ofWorker (l : Launch) (hfl : l.stackTraces = false) (G : sx_G) (sz : Nat) (h : Nat) (b : Nat) (pl : Nat) (cr : Nat) (te : Nat) (ca : Nat) (c1 : Nat) (c2 : Nat) (c3 : Nat) (c4 : Nat) (c5 : Nat) (p0 : Int32) (p1 : Int32) (o : Nat) (g : Nat → Int64) : sx_MetW l yL_ofWorker cL_ofWorker 5 (some .int) [(0, 10, 13, 21), (0, 10, 17, 13)] 8 125 1 6 G [.ref h, .int p0, .int p1, .ref o] [(h, .inr (9, [.ref b, .ref pl, .ref cr, .ref te, .ref ca])), (cr, .inr (4, [.int 0, .ref c1, .ref c2, .ref c3, .ref c4, .ref c5])), (o, .inl (G.2.2.1, 1, .inr (.inl g)))] sz (sx_Qi G (fun (r : Int32) (u : Nat → Int64) => r = 1 ∧ (r = 0 → u 0 = 0)) (fun (u : Nat → Int64) => [(o, .inl (G.2.2.1, 1, .inr (.inl u)))])) := by
  refine sx_startW (by decide) rfl (fun p e s m below meth c A ls F hr hlk hnm htab hP hD hS hl => ?_)
  obtain ⟨hx, hb, hml, hown, hts, hK, hE, hA⟩ := id F
  have hown : s.vm.findClass RL = some m.cls := hown
  generalize hHe : s.heap = H at hP
  have hS : va_S A s.heap H [] := by rw [← hHe]; exact va_S.rf
  have hl : lv_has ls 5 [(0, .ref h), (1, .int p0), (2, .int p1), (3, .ref o)] := hl
  refine lv_aload_n hx hb dL_ofWorker_0 rfl (lv_at hl 3 rfl) ?_
  refine lv_iconst (v := 0) hx hb dL_ofWorker_1 (by decide) ?_
  refine lv_aload_n hx hb dL_ofWorker_2 rfl (lv_at hl 0 rfl) ?_
  refine lv_iload_n hx hb dL_ofWorker_3 rfl (lv_at hl 1 rfl) ?_
  refine lv_iload_n hx hb dL_ofWorker_4 rfl (lv_at hl 2 rfl) ?_
  have hcut : sx_cut [(h, .inr (9, [.ref b, .ref pl, .ref cr, .ref te, .ref ca])), (cr, .inr (4, [.int 0, .ref c1, .ref c2, .ref c3, .ref c4, .ref c5])), (o, .inl (G.2.2.1, 1, .inr (.inl g)))] [(h, .inr (9, [.ref b, .ref pl, .ref cr, .ref te, .ref ca])), (cr, .inr (4, [.int 0, .ref c1, .ref c2, .ref c3, .ref c4, .ref c5]))] [(o, .inl (G.2.2.1, 1, .inr (.inl g)))] [0, 1] [2] := ⟨rfl, rfl, by decide, by decide, by decide⟩
  refine sx_xki (sx_xrunV (As := [.int p0, .int p1]) (rest := [.int 0, .ref o]) F (m_X7_ofWorker l hfl G H.size h b pl cr te ca c1 c2 c3 c4 c5 p0 p1) mi_X7_ofWorker q495 qs_X7_ofWorker q723 ⟨⟨Nat.le_of_ble_eq_true rfl, Nat.le_of_ble_eq_true rfl⟩, Nat.le_of_ble_eq_true rfl, Nat.le_of_ble_eq_true rfl⟩ hcut hP hD hS 0 9 rfl rfl rfl hl.1 rfl (Nat.le_of_ble_eq_true rfl) dL_ofWorker_5) hcut hP hD hS hA (fun E ce q9 H locs hw9 hP hD hS hce hcv hcl => ?_) (fun r_3 u_1 H locs w_2 hP hD hS => ?_)
  · have hP : va_P (sx_D G) vwCl [(o, .inl (G.2.2.1, 1, .inr (.inl g)))] H := hP
    have hD : va_D A [(o, .inl (G.2.2.1, 1, .inr (.inl g)))] := hD
    subst hw9
    refine vx_catch (own := RL) (E := "java/lang/IndexOutOfBoundsException") (name := "java/lang/IndexOutOfBoundsException") hown [] ({ startPc := 0, endPc := 10, handlerPc := 13, catchType := 21 } : ClassFile.ExceptionTableEntry) [({ startPc := 0, endPc := 10, handlerPc := 17, catchType := 13 } : ClassFile.ExceptionTableEntry)] htab (fun z hz9 => absurd hz9 List.not_mem_nil) (by decide) (by decide) (hts _ q697) (hts _ q461) hce hcv hcl ?_
    refine lv_astore (lv' := [(4, .ref q9), (0, .ref h), (1, .int p0), (2, .int p1), (3, .ref o)]) hx hb dL_ofWorker_13 hl (by decide) rfl (fun ls hl => ?_)
    refine lv_iconst (v := 1) hx hb dL_ofWorker_15 (by decide) ?_
    exact (sx_iret (v := 1) (g) hx hb hr rfl hlk hP hD hS ⟨rfl, fun h => absurd h (by decide)⟩ dL_ofWorker_16 rfl rfl)
  · have hP : va_P (sx_D G) vwCl [(o, .inl (G.2.2.1, 1, .inr (.inl g)))] H := hP
    have hD : va_D A [(o, .inl (G.2.2.1, 1, .inr (.inl g)))] := hD
    exact w_2.elim
set_option maxHeartbeats 4000000 in
set_option maxRecDepth 100000 in
theorem m_L_mend (l : Launch) (hfl : l.stackTraces = false) (G : sx_G) (sz : Nat) (h : Nat) (b : Nat) (pl : Nat) (cr : Nat) (te : Nat) (ca : Nat) (c1 : Nat) (c2 : Nat) (c3 : Nat) (c4 : Nat) (c5 : Nat) (p0 : Int32) (p1 : Int32) (o : Nat) (g : Nat → Int64) : sx_MetW l yL_mend cL_mend 5 (some .int) [(0, 10, 13, 21), (0, 10, 17, 13)] 8 126 1 6 G [.ref h, .int p0, .int p1, .ref o] [(h, .inr (9, [.ref b, .ref pl, .ref cr, .ref te, .ref ca])), (cr, .inr (4, [.int 0, .ref c1, .ref c2, .ref c3, .ref c4, .ref c5])), (o, .inl (G.2.2.1, 1, .inr (.inl g)))] sz (sx_Qi G (fun (r : Int32) (u : Nat → Int64) => r = 1 ∧ (r = 0 → u 0 = 0)) (fun (u : Nat → Int64) => [(o, .inl (G.2.2.1, 1, .inr (.inl u)))])) := by
  refine sx_startW (by decide) rfl (fun p e s m below meth c A ls F hr hlk hnm htab hP hD hS hl => ?_)
  obtain ⟨hx, hb, hml, hown, hts, hK, hE, hA⟩ := id F
  have hown : s.vm.findClass RL = some m.cls := hown
  generalize hHe : s.heap = H at hP
  have hS : va_S A s.heap H [] := by rw [← hHe]; exact va_S.rf
  have hl : lv_has ls 5 [(0, .ref h), (1, .int p0), (2, .int p1), (3, .ref o)] := hl
  refine lv_aload_n hx hb dL_mend_0 rfl (lv_at hl 3 rfl) ?_
  refine lv_iconst (v := 0) hx hb dL_mend_1 (by decide) ?_
  refine lv_aload_n hx hb dL_mend_2 rfl (lv_at hl 0 rfl) ?_
  refine lv_iload_n hx hb dL_mend_3 rfl (lv_at hl 1 rfl) ?_
  refine lv_iload_n hx hb dL_mend_4 rfl (lv_at hl 2 rfl) ?_
  have hcut : sx_cut [(h, .inr (9, [.ref b, .ref pl, .ref cr, .ref te, .ref ca])), (cr, .inr (4, [.int 0, .ref c1, .ref c2, .ref c3, .ref c4, .ref c5])), (o, .inl (G.2.2.1, 1, .inr (.inl g)))] [(h, .inr (9, [.ref b, .ref pl, .ref cr, .ref te, .ref ca])), (cr, .inr (4, [.int 0, .ref c1, .ref c2, .ref c3, .ref c4, .ref c5]))] [(o, .inl (G.2.2.1, 1, .inr (.inl g)))] [0, 1] [2] := ⟨rfl, rfl, by decide, by decide, by decide⟩
  refine sx_xki (sx_xrunV (As := [.int p0, .int p1]) (rest := [.int 0, .ref o]) F (m_X7_mend l hfl G H.size h b pl cr te ca c1 c2 c3 c4 c5 p0 p1) mi_X7_mend q728 qs_X7_mend q727 ⟨⟨Nat.le_of_ble_eq_true rfl, Nat.le_of_ble_eq_true rfl⟩, Nat.le_of_ble_eq_true rfl, Nat.le_of_ble_eq_true rfl⟩ hcut hP hD hS 0 9 rfl rfl rfl hl.1 rfl (Nat.le_of_ble_eq_true rfl) dL_mend_5) hcut hP hD hS hA (fun E ce q9 H locs hw9 hP hD hS hce hcv hcl => ?_) (fun r_3 u_1 H locs w_2 hP hD hS => ?_)
  · have hP : va_P (sx_D G) vwCl [(o, .inl (G.2.2.1, 1, .inr (.inl g)))] H := hP
    have hD : va_D A [(o, .inl (G.2.2.1, 1, .inr (.inl g)))] := hD
    subst hw9
    refine vx_catch (own := RL) (E := "java/lang/IndexOutOfBoundsException") (name := "java/lang/IndexOutOfBoundsException") hown [] ({ startPc := 0, endPc := 10, handlerPc := 13, catchType := 21 } : ClassFile.ExceptionTableEntry) [({ startPc := 0, endPc := 10, handlerPc := 17, catchType := 13 } : ClassFile.ExceptionTableEntry)] htab (fun z hz9 => absurd hz9 List.not_mem_nil) (by decide) (by decide) (hts _ q697) (hts _ q461) hce hcv hcl ?_
    refine lv_astore (lv' := [(4, .ref q9), (0, .ref h), (1, .int p0), (2, .int p1), (3, .ref o)]) hx hb dL_mend_13 hl (by decide) rfl (fun ls hl => ?_)
    refine lv_iconst (v := 1) hx hb dL_mend_15 (by decide) ?_
    exact (sx_iret (v := 1) (g) hx hb hr rfl hlk hP hD hS ⟨rfl, fun h => absurd h (by decide)⟩ dL_mend_16 rfl rfl)
  · have hP : va_P (sx_D G) vwCl [(o, .inl (G.2.2.1, 1, .inr (.inl g)))] H := hP
    have hD : va_D A [(o, .inl (G.2.2.1, 1, .inr (.inl g)))] := hD
    exact w_2.elim
set_option maxHeartbeats 4000000 in
set_option maxRecDepth 100000 in
theorem m_L_quota (l : Launch) (hfl : l.stackTraces = false) (G : sx_G) (sz : Nat) (h : Nat) (b : Nat) (pl : Nat) (cr : Nat) (te : Nat) (ca : Nat) (t1 : Nat) (t2 : Nat) (t3 : Nat) (p0 : Int32) (p1 : Int32) (o : Nat) (g : Nat → Int64) : sx_MetW l yL_quota cL_quota 5 (some .int) [(0, 10, 13, 21), (0, 10, 17, 13)] 8 125 1 6 G [.ref h, .int p0, .int p1, .ref o] [(h, .inr (9, [.ref b, .ref pl, .ref cr, .ref te, .ref ca])), (te, .inr (8, [.int 0, .ref t1, .ref t2, .ref t3])), (o, .inl (G.2.2.1, 1, .inr (.inl g)))] sz (sx_Qi G (fun (r : Int32) (u : Nat → Int64) => r = 1 ∧ (r = 0 → u 0 = 0)) (fun (u : Nat → Int64) => [(o, .inl (G.2.2.1, 1, .inr (.inl u)))])) := by
  refine sx_startW (by decide) rfl (fun p e s m below meth c A ls F hr hlk hnm htab hP hD hS hl => ?_)
  obtain ⟨hx, hb, hml, hown, hts, hK, hE, hA⟩ := id F
  have hown : s.vm.findClass RL = some m.cls := hown
  generalize hHe : s.heap = H at hP
  have hS : va_S A s.heap H [] := by rw [← hHe]; exact va_S.rf
  have hl : lv_has ls 5 [(0, .ref h), (1, .int p0), (2, .int p1), (3, .ref o)] := hl
  refine lv_aload_n hx hb dL_quota_0 rfl (lv_at hl 3 rfl) ?_
  refine lv_iconst (v := 0) hx hb dL_quota_1 (by decide) ?_
  refine lv_aload_n hx hb dL_quota_2 rfl (lv_at hl 0 rfl) ?_
  refine lv_iload_n hx hb dL_quota_3 rfl (lv_at hl 1 rfl) ?_
  refine lv_iload_n hx hb dL_quota_4 rfl (lv_at hl 2 rfl) ?_
  have hcut : sx_cut [(h, .inr (9, [.ref b, .ref pl, .ref cr, .ref te, .ref ca])), (te, .inr (8, [.int 0, .ref t1, .ref t2, .ref t3])), (o, .inl (G.2.2.1, 1, .inr (.inl g)))] [(h, .inr (9, [.ref b, .ref pl, .ref cr, .ref te, .ref ca])), (te, .inr (8, [.int 0, .ref t1, .ref t2, .ref t3]))] [(o, .inl (G.2.2.1, 1, .inr (.inl g)))] [0, 1] [2] := ⟨rfl, rfl, by decide, by decide, by decide⟩
  refine sx_xki (sx_xrunV (As := [.int p0, .int p1]) (rest := [.int 0, .ref o]) F (m_X7_quota l hfl G H.size h b pl cr te ca t1 t2 t3 p0 p1) mi_X7_quota q742 qs_X7_quota q741 ⟨⟨Nat.le_of_ble_eq_true rfl, Nat.le_of_ble_eq_true rfl⟩, Nat.le_of_ble_eq_true rfl, Nat.le_of_ble_eq_true rfl⟩ hcut hP hD hS 0 9 rfl rfl rfl hl.1 rfl (Nat.le_of_ble_eq_true rfl) dL_quota_5) hcut hP hD hS hA (fun E ce q9 H locs hw9 hP hD hS hce hcv hcl => ?_) (fun r_3 u_1 H locs w_2 hP hD hS => ?_)
  · have hP : va_P (sx_D G) vwCl [(o, .inl (G.2.2.1, 1, .inr (.inl g)))] H := hP
    have hD : va_D A [(o, .inl (G.2.2.1, 1, .inr (.inl g)))] := hD
    subst hw9
    refine vx_catch (own := RL) (E := "java/lang/IndexOutOfBoundsException") (name := "java/lang/IndexOutOfBoundsException") hown [] ({ startPc := 0, endPc := 10, handlerPc := 13, catchType := 21 } : ClassFile.ExceptionTableEntry) [({ startPc := 0, endPc := 10, handlerPc := 17, catchType := 13 } : ClassFile.ExceptionTableEntry)] htab (fun z hz9 => absurd hz9 List.not_mem_nil) (by decide) (by decide) (hts _ q697) (hts _ q461) hce hcv hcl ?_
    refine lv_astore (lv' := [(4, .ref q9), (0, .ref h), (1, .int p0), (2, .int p1), (3, .ref o)]) hx hb dL_quota_13 hl (by decide) rfl (fun ls hl => ?_)
    refine lv_iconst (v := 1) hx hb dL_quota_15 (by decide) ?_
    exact (sx_iret (v := 1) (g) hx hb hr rfl hlk hP hD hS ⟨rfl, fun h => absurd h (by decide)⟩ dL_quota_16 rfl rfl)
  · have hP : va_P (sx_D G) vwCl [(o, .inl (G.2.2.1, 1, .inr (.inl g)))] H := hP
    have hD : va_D A [(o, .inl (G.2.2.1, 1, .inr (.inl g)))] := hD
    exact w_2.elim
set_option maxHeartbeats 4000000 in
set_option maxRecDepth 100000 in
theorem m_L_ofTeam (l : Launch) (hfl : l.stackTraces = false) (G : sx_G) (sz : Nat) (h : Nat) (b : Nat) (pl : Nat) (cr : Nat) (te : Nat) (ca : Nat) (t1 : Nat) (t2 : Nat) (t3 : Nat) (p0 : Int32) (p1 : Int32) (o : Nat) (g : Nat → Int64) : sx_MetW l yL_ofTeam cL_ofTeam 5 (some .int) [(0, 10, 13, 21), (0, 10, 17, 13)] 8 125 1 6 G [.ref h, .int p0, .int p1, .ref o] [(h, .inr (9, [.ref b, .ref pl, .ref cr, .ref te, .ref ca])), (te, .inr (8, [.int 0, .ref t1, .ref t2, .ref t3])), (o, .inl (G.2.2.1, 1, .inr (.inl g)))] sz (sx_Qi G (fun (r : Int32) (u : Nat → Int64) => r = 1 ∧ (r = 0 → u 0 = 0)) (fun (u : Nat → Int64) => [(o, .inl (G.2.2.1, 1, .inr (.inl u)))])) := by
  refine sx_startW (by decide) rfl (fun p e s m below meth c A ls F hr hlk hnm htab hP hD hS hl => ?_)
  obtain ⟨hx, hb, hml, hown, hts, hK, hE, hA⟩ := id F
  have hown : s.vm.findClass RL = some m.cls := hown
  generalize hHe : s.heap = H at hP
  have hS : va_S A s.heap H [] := by rw [← hHe]; exact va_S.rf
  have hl : lv_has ls 5 [(0, .ref h), (1, .int p0), (2, .int p1), (3, .ref o)] := hl
  refine lv_aload_n hx hb dL_ofTeam_0 rfl (lv_at hl 3 rfl) ?_
  refine lv_iconst (v := 0) hx hb dL_ofTeam_1 (by decide) ?_
  refine lv_aload_n hx hb dL_ofTeam_2 rfl (lv_at hl 0 rfl) ?_
  refine lv_iload_n hx hb dL_ofTeam_3 rfl (lv_at hl 1 rfl) ?_
  refine lv_iload_n hx hb dL_ofTeam_4 rfl (lv_at hl 2 rfl) ?_
  have hcut : sx_cut [(h, .inr (9, [.ref b, .ref pl, .ref cr, .ref te, .ref ca])), (te, .inr (8, [.int 0, .ref t1, .ref t2, .ref t3])), (o, .inl (G.2.2.1, 1, .inr (.inl g)))] [(h, .inr (9, [.ref b, .ref pl, .ref cr, .ref te, .ref ca])), (te, .inr (8, [.int 0, .ref t1, .ref t2, .ref t3]))] [(o, .inl (G.2.2.1, 1, .inr (.inl g)))] [0, 1] [2] := ⟨rfl, rfl, by decide, by decide, by decide⟩
  refine sx_xki (sx_xrunV (As := [.int p0, .int p1]) (rest := [.int 0, .ref o]) F (m_X7_ofTeam l hfl G H.size h b pl cr te ca t1 t2 t3 p0 p1) mi_X7_ofTeam q503 qs_X7_ofTeam q749 ⟨⟨Nat.le_of_ble_eq_true rfl, Nat.le_of_ble_eq_true rfl⟩, Nat.le_of_ble_eq_true rfl, Nat.le_of_ble_eq_true rfl⟩ hcut hP hD hS 0 9 rfl rfl rfl hl.1 rfl (Nat.le_of_ble_eq_true rfl) dL_ofTeam_5) hcut hP hD hS hA (fun E ce q9 H locs hw9 hP hD hS hce hcv hcl => ?_) (fun r_3 u_1 H locs w_2 hP hD hS => ?_)
  · have hP : va_P (sx_D G) vwCl [(o, .inl (G.2.2.1, 1, .inr (.inl g)))] H := hP
    have hD : va_D A [(o, .inl (G.2.2.1, 1, .inr (.inl g)))] := hD
    subst hw9
    refine vx_catch (own := RL) (E := "java/lang/IndexOutOfBoundsException") (name := "java/lang/IndexOutOfBoundsException") hown [] ({ startPc := 0, endPc := 10, handlerPc := 13, catchType := 21 } : ClassFile.ExceptionTableEntry) [({ startPc := 0, endPc := 10, handlerPc := 17, catchType := 13 } : ClassFile.ExceptionTableEntry)] htab (fun z hz9 => absurd hz9 List.not_mem_nil) (by decide) (by decide) (hts _ q697) (hts _ q461) hce hcv hcl ?_
    refine lv_astore (lv' := [(4, .ref q9), (0, .ref h), (1, .int p0), (2, .int p1), (3, .ref o)]) hx hb dL_ofTeam_13 hl (by decide) rfl (fun ls hl => ?_)
    refine lv_iconst (v := 1) hx hb dL_ofTeam_15 (by decide) ?_
    exact (sx_iret (v := 1) (g) hx hb hr rfl hlk hP hD hS ⟨rfl, fun h => absurd h (by decide)⟩ dL_ofTeam_16 rfl rfl)
  · have hP : va_P (sx_D G) vwCl [(o, .inl (G.2.2.1, 1, .inr (.inl g)))] H := hP
    have hD : va_D A [(o, .inl (G.2.2.1, 1, .inr (.inl g)))] := hD
    exact w_2.elim
set_option maxHeartbeats 4000000 in
set_option maxRecDepth 100000 in
theorem m_L_build (l : Launch) (hfl : l.stackTraces = false) (G : sx_G) (sz : Nat) (h : Nat) (b : Nat) (pl : Nat) (cr : Nat) (te : Nat) (ca : Nat) (t1 : Nat) (t2 : Nat) (t3 : Nat) (p0 : Int32) (p1 : Int32) (o : Nat) (g : Nat → Int64) : sx_MetW l yL_build cL_build 5 (some .int) [(0, 10, 13, 21), (0, 10, 17, 15)] 8 126 1 6 G [.ref h, .int p0, .int p1, .ref o] [(h, .inr (9, [.ref b, .ref pl, .ref cr, .ref te, .ref ca])), (te, .inr (8, [.int 0, .ref t1, .ref t2, .ref t3])), (o, .inl (G.2.2.1, 1, .inr (.inl g)))] sz (sx_Qi G (fun (r : Int32) (u : Nat → Int64) => r = 1 ∧ (r = 0 → u 0 = 0)) (fun (u : Nat → Int64) => [(o, .inl (G.2.2.1, 1, .inr (.inl u)))])) := by
  refine sx_startW (by decide) rfl (fun p e s m below meth c A ls F hr hlk hnm htab hP hD hS hl => ?_)
  obtain ⟨hx, hb, hml, hown, hts, hK, hE, hA⟩ := id F
  have hown : s.vm.findClass RL = some m.cls := hown
  generalize hHe : s.heap = H at hP
  have hS : va_S A s.heap H [] := by rw [← hHe]; exact va_S.rf
  have hl : lv_has ls 5 [(0, .ref h), (1, .int p0), (2, .int p1), (3, .ref o)] := hl
  refine lv_aload_n hx hb dL_build_0 rfl (lv_at hl 3 rfl) ?_
  refine lv_iconst (v := 0) hx hb dL_build_1 (by decide) ?_
  refine lv_aload_n hx hb dL_build_2 rfl (lv_at hl 0 rfl) ?_
  refine lv_iload_n hx hb dL_build_3 rfl (lv_at hl 1 rfl) ?_
  refine lv_iload_n hx hb dL_build_4 rfl (lv_at hl 2 rfl) ?_
  have hcut : sx_cut [(h, .inr (9, [.ref b, .ref pl, .ref cr, .ref te, .ref ca])), (te, .inr (8, [.int 0, .ref t1, .ref t2, .ref t3])), (o, .inl (G.2.2.1, 1, .inr (.inl g)))] [(h, .inr (9, [.ref b, .ref pl, .ref cr, .ref te, .ref ca])), (te, .inr (8, [.int 0, .ref t1, .ref t2, .ref t3]))] [(o, .inl (G.2.2.1, 1, .inr (.inl g)))] [0, 1] [2] := ⟨rfl, rfl, by decide, by decide, by decide⟩
  refine sx_xki (sx_xrunV (As := [.int p0, .int p1]) (rest := [.int 0, .ref o]) F (m_X7_build l hfl G H.size h b pl cr te ca t1 t2 t3 p0 p1) mi_X7_build q754 qs_X7_build q753 ⟨⟨Nat.le_of_ble_eq_true rfl, Nat.le_of_ble_eq_true rfl⟩, Nat.le_of_ble_eq_true rfl, Nat.le_of_ble_eq_true rfl⟩ hcut hP hD hS 0 9 rfl rfl rfl hl.1 rfl (Nat.le_of_ble_eq_true rfl) dL_build_5) hcut hP hD hS hA (fun E ce q9 H locs hw9 hP hD hS hce hcv hcl => ?_) (fun r_3 u_1 H locs w_2 hP hD hS => ?_)
  · have hP : va_P (sx_D G) vwCl [(o, .inl (G.2.2.1, 1, .inr (.inl g)))] H := hP
    have hD : va_D A [(o, .inl (G.2.2.1, 1, .inr (.inl g)))] := hD
    subst hw9
    refine vx_catch (own := RL) (E := "java/lang/IndexOutOfBoundsException") (name := "java/lang/IndexOutOfBoundsException") hown [] ({ startPc := 0, endPc := 10, handlerPc := 13, catchType := 21 } : ClassFile.ExceptionTableEntry) [({ startPc := 0, endPc := 10, handlerPc := 17, catchType := 15 } : ClassFile.ExceptionTableEntry)] htab (fun z hz9 => absurd hz9 List.not_mem_nil) (by decide) (by decide) (hts _ q697) (hts _ q461) hce hcv hcl ?_
    refine lv_astore (lv' := [(4, .ref q9), (0, .ref h), (1, .int p0), (2, .int p1), (3, .ref o)]) hx hb dL_build_13 hl (by decide) rfl (fun ls hl => ?_)
    refine lv_iconst (v := 1) hx hb dL_build_15 (by decide) ?_
    exact (sx_iret (v := 1) (g) hx hb hr rfl hlk hP hD hS ⟨rfl, fun h => absurd h (by decide)⟩ dL_build_16 rfl rfl)
  · have hP : va_P (sx_D G) vwCl [(o, .inl (G.2.2.1, 1, .inr (.inl g)))] H := hP
    have hD : va_D A [(o, .inl (G.2.2.1, 1, .inr (.inl g)))] := hD
    exact w_2.elim
set_option maxHeartbeats 4000000 in
set_option maxRecDepth 100000 in
theorem m_L_recheck (l : Launch) (hfl : l.stackTraces = false) (G : sx_G) (sz : Nat) (h : Nat) (b : Nat) (pl : Nat) (cr : Nat) (te : Nat) (ca : Nat) (k2 : Nat) (k3 : Nat) (k4 : Nat) (k5 : Nat) (k6 : Nat) (k7 : Nat) (k8 : Nat) (k9 : Nat) (k10 : Nat) (k11 : Nat) (k12 : Nat) (k13 : Nat) (k14 : Nat) (p0 : Int32) (o : Nat) (g : Nat → Int64) : sx_MetW l yL_recheck cL_recheck 4 (some .int) [(0, 9, 12, 21), (0, 9, 15, 15)] 8 124 1 6 G [.ref h, .int p0, .ref o] [(h, .inr (9, [.ref b, .ref pl, .ref cr, .ref te, .ref ca])), (ca, .inr (3, [.int 0, .int 0, .ref k2, .ref k3, .ref k4, .ref k5, .ref k6, .ref k7, .ref k8, .ref k9, .ref k10, .ref k11, .ref k12, .ref k13, .ref k14])), (o, .inl (G.2.2.1, 1, .inr (.inl g)))] sz (sx_Qi G (fun (r : Int32) (u : Nat → Int64) => r = 1 ∧ (r = 0 → u 0 = 0)) (fun (u : Nat → Int64) => [(o, .inl (G.2.2.1, 1, .inr (.inl u)))])) := by
  refine sx_startW (by decide) rfl (fun p e s m below meth c A ls F hr hlk hnm htab hP hD hS hl => ?_)
  obtain ⟨hx, hb, hml, hown, hts, hK, hE, hA⟩ := id F
  have hown : s.vm.findClass RL = some m.cls := hown
  generalize hHe : s.heap = H at hP
  have hS : va_S A s.heap H [] := by rw [← hHe]; exact va_S.rf
  have hl : lv_has ls 4 [(0, .ref h), (1, .int p0), (2, .ref o)] := hl
  refine lv_aload_n hx hb dL_recheck_0 rfl (lv_at hl 2 rfl) ?_
  refine lv_iconst (v := 0) hx hb dL_recheck_1 (by decide) ?_
  refine lv_aload_n hx hb dL_recheck_2 rfl (lv_at hl 0 rfl) ?_
  refine lv_iload_n hx hb dL_recheck_3 rfl (lv_at hl 1 rfl) ?_
  have hcut : sx_cut [(h, .inr (9, [.ref b, .ref pl, .ref cr, .ref te, .ref ca])), (ca, .inr (3, [.int 0, .int 0, .ref k2, .ref k3, .ref k4, .ref k5, .ref k6, .ref k7, .ref k8, .ref k9, .ref k10, .ref k11, .ref k12, .ref k13, .ref k14])), (o, .inl (G.2.2.1, 1, .inr (.inl g)))] [(h, .inr (9, [.ref b, .ref pl, .ref cr, .ref te, .ref ca])), (ca, .inr (3, [.int 0, .int 0, .ref k2, .ref k3, .ref k4, .ref k5, .ref k6, .ref k7, .ref k8, .ref k9, .ref k10, .ref k11, .ref k12, .ref k13, .ref k14]))] [(o, .inl (G.2.2.1, 1, .inr (.inl g)))] [0, 1] [2] := ⟨rfl, rfl, by decide, by decide, by decide⟩
  refine sx_xki (sx_xrunV (As := [.int p0]) (rest := [.int 0, .ref o]) F (m_X7_recheck l hfl G H.size h b pl cr te ca k2 k3 k4 k5 k6 k7 k8 k9 k10 k11 k12 k13 k14 p0) mi_X7_recheck q772 qs_X7_recheck q771 ⟨⟨Nat.le_of_ble_eq_true rfl, Nat.le_of_ble_eq_true rfl⟩, Nat.le_of_ble_eq_true rfl, Nat.le_of_ble_eq_true rfl⟩ hcut hP hD hS 0 9 rfl rfl rfl hl.1 rfl (Nat.le_of_ble_eq_true rfl) dL_recheck_4) hcut hP hD hS hA (fun E ce q9 H locs hw9 hP hD hS hce hcv hcl => ?_) (fun r_3 u_1 H locs w_2 hP hD hS => ?_)
  · have hP : va_P (sx_D G) vwCl [(o, .inl (G.2.2.1, 1, .inr (.inl g)))] H := hP
    have hD : va_D A [(o, .inl (G.2.2.1, 1, .inr (.inl g)))] := hD
    subst hw9
    refine vx_catch (own := RL) (E := "java/lang/IndexOutOfBoundsException") (name := "java/lang/IndexOutOfBoundsException") hown [] ({ startPc := 0, endPc := 9, handlerPc := 12, catchType := 21 } : ClassFile.ExceptionTableEntry) [({ startPc := 0, endPc := 9, handlerPc := 15, catchType := 15 } : ClassFile.ExceptionTableEntry)] htab (fun z hz9 => absurd hz9 List.not_mem_nil) (by decide) (by decide) (hts _ q697) (hts _ q461) hce hcv hcl ?_
    refine lv_astore_n (lv' := [(3, .ref q9), (0, .ref h), (1, .int p0), (2, .ref o)]) hx hb dL_recheck_12 rfl hl (by decide) rfl (fun ls hl => ?_)
    refine lv_iconst (v := 1) hx hb dL_recheck_13 (by decide) ?_
    exact (sx_iret (v := 1) (g) hx hb hr rfl hlk hP hD hS ⟨rfl, fun h => absurd h (by decide)⟩ dL_recheck_14 rfl rfl)
  · have hP : va_P (sx_D G) vwCl [(o, .inl (G.2.2.1, 1, .inr (.inl g)))] H := hP
    have hD : va_D A [(o, .inl (G.2.2.1, 1, .inr (.inl g)))] := hD
    exact w_2.elim
set_option maxHeartbeats 4000000 in
set_option maxRecDepth 100000 in
theorem m_L_ofEntry (l : Launch) (hfl : l.stackTraces = false) (G : sx_G) (sz : Nat) (h : Nat) (b : Nat) (pl : Nat) (cr : Nat) (te : Nat) (ca : Nat) (k2 : Nat) (k3 : Nat) (k4 : Nat) (k5 : Nat) (k6 : Nat) (k7 : Nat) (k8 : Nat) (k9 : Nat) (k10 : Nat) (k11 : Nat) (k12 : Nat) (k13 : Nat) (k14 : Nat) (p0 : Int32) (p1 : Int32) (o : Nat) (g : Nat → Int64) : sx_MetW l yL_ofEntry cL_ofEntry 5 (some .int) [(0, 10, 13, 21), (0, 10, 17, 13)] 8 125 1 6 G [.ref h, .int p0, .int p1, .ref o] [(h, .inr (9, [.ref b, .ref pl, .ref cr, .ref te, .ref ca])), (ca, .inr (3, [.int 0, .int 0, .ref k2, .ref k3, .ref k4, .ref k5, .ref k6, .ref k7, .ref k8, .ref k9, .ref k10, .ref k11, .ref k12, .ref k13, .ref k14])), (o, .inl (G.2.2.1, 1, .inr (.inl g)))] sz (sx_Qi G (fun (r : Int32) (u : Nat → Int64) => r = 1 ∧ (r = 0 → u 0 = 0)) (fun (u : Nat → Int64) => [(o, .inl (G.2.2.1, 1, .inr (.inl u)))])) := by
  refine sx_startW (by decide) rfl (fun p e s m below meth c A ls F hr hlk hnm htab hP hD hS hl => ?_)
  obtain ⟨hx, hb, hml, hown, hts, hK, hE, hA⟩ := id F
  have hown : s.vm.findClass RL = some m.cls := hown
  generalize hHe : s.heap = H at hP
  have hS : va_S A s.heap H [] := by rw [← hHe]; exact va_S.rf
  have hl : lv_has ls 5 [(0, .ref h), (1, .int p0), (2, .int p1), (3, .ref o)] := hl
  refine lv_aload_n hx hb dL_ofEntry_0 rfl (lv_at hl 3 rfl) ?_
  refine lv_iconst (v := 0) hx hb dL_ofEntry_1 (by decide) ?_
  refine lv_aload_n hx hb dL_ofEntry_2 rfl (lv_at hl 0 rfl) ?_
  refine lv_iload_n hx hb dL_ofEntry_3 rfl (lv_at hl 1 rfl) ?_
  refine lv_iload_n hx hb dL_ofEntry_4 rfl (lv_at hl 2 rfl) ?_
  have hcut : sx_cut [(h, .inr (9, [.ref b, .ref pl, .ref cr, .ref te, .ref ca])), (ca, .inr (3, [.int 0, .int 0, .ref k2, .ref k3, .ref k4, .ref k5, .ref k6, .ref k7, .ref k8, .ref k9, .ref k10, .ref k11, .ref k12, .ref k13, .ref k14])), (o, .inl (G.2.2.1, 1, .inr (.inl g)))] [(h, .inr (9, [.ref b, .ref pl, .ref cr, .ref te, .ref ca])), (ca, .inr (3, [.int 0, .int 0, .ref k2, .ref k3, .ref k4, .ref k5, .ref k6, .ref k7, .ref k8, .ref k9, .ref k10, .ref k11, .ref k12, .ref k13, .ref k14]))] [(o, .inl (G.2.2.1, 1, .inr (.inl g)))] [0, 1] [2] := ⟨rfl, rfl, by decide, by decide, by decide⟩
  refine sx_xki (sx_xrunV (As := [.int p0, .int p1]) (rest := [.int 0, .ref o]) F (m_X7_ofEntry l hfl G H.size h b pl cr te ca k2 k3 k4 k5 k6 k7 k8 k9 k10 k11 k12 k13 k14 p0 p1) mi_X7_ofEntry q640 qs_X7_ofEntry q784 ⟨⟨Nat.le_of_ble_eq_true rfl, Nat.le_of_ble_eq_true rfl⟩, Nat.le_of_ble_eq_true rfl, Nat.le_of_ble_eq_true rfl⟩ hcut hP hD hS 0 9 rfl rfl rfl hl.1 rfl (Nat.le_of_ble_eq_true rfl) dL_ofEntry_5) hcut hP hD hS hA (fun E ce q9 H locs hw9 hP hD hS hce hcv hcl => ?_) (fun r_3 u_1 H locs w_2 hP hD hS => ?_)
  · have hP : va_P (sx_D G) vwCl [(o, .inl (G.2.2.1, 1, .inr (.inl g)))] H := hP
    have hD : va_D A [(o, .inl (G.2.2.1, 1, .inr (.inl g)))] := hD
    subst hw9
    refine vx_catch (own := RL) (E := "java/lang/IndexOutOfBoundsException") (name := "java/lang/IndexOutOfBoundsException") hown [] ({ startPc := 0, endPc := 10, handlerPc := 13, catchType := 21 } : ClassFile.ExceptionTableEntry) [({ startPc := 0, endPc := 10, handlerPc := 17, catchType := 13 } : ClassFile.ExceptionTableEntry)] htab (fun z hz9 => absurd hz9 List.not_mem_nil) (by decide) (by decide) (hts _ q697) (hts _ q461) hce hcv hcl ?_
    refine lv_astore (lv' := [(4, .ref q9), (0, .ref h), (1, .int p0), (2, .int p1), (3, .ref o)]) hx hb dL_ofEntry_13 hl (by decide) rfl (fun ls hl => ?_)
    refine lv_iconst (v := 1) hx hb dL_ofEntry_15 (by decide) ?_
    exact (sx_iret (v := 1) (g) hx hb hr rfl hlk hP hD hS ⟨rfl, fun h => absurd h (by decide)⟩ dL_ofEntry_16 rfl rfl)
  · have hP : va_P (sx_D G) vwCl [(o, .inl (G.2.2.1, 1, .inr (.inl g)))] H := hP
    have hD : va_D A [(o, .inl (G.2.2.1, 1, .inr (.inl g)))] := hD
    exact w_2.elim
set_option maxHeartbeats 4000000 in
set_option maxRecDepth 100000 in
theorem m_L_from (l : Launch) (hfl : l.stackTraces = false) (G : sx_G) (sz : Nat) (h : Nat) (b : Nat) (pl : Nat) (cr : Nat) (te : Nat) (ca : Nat) (k2 : Nat) (k3 : Nat) (k4 : Nat) (k5 : Nat) (k6 : Nat) (k7 : Nat) (k8 : Nat) (k9 : Nat) (k10 : Nat) (k11 : Nat) (k12 : Nat) (k13 : Nat) (k14 : Nat) (p0 : Int32) (p1 : Int32) (o : Nat) (g : Nat → Int64) : sx_MetW l yL_from cL_from 5 (some .int) [(0, 10, 13, 21)] 8 126 1 6 G [.ref h, .int p0, .int p1, .ref o] [(h, .inr (9, [.ref b, .ref pl, .ref cr, .ref te, .ref ca])), (ca, .inr (3, [.int 0, .int 0, .ref k2, .ref k3, .ref k4, .ref k5, .ref k6, .ref k7, .ref k8, .ref k9, .ref k10, .ref k11, .ref k12, .ref k13, .ref k14])), (o, .inl (G.2.2.1, 1, .inr (.inl g)))] sz (sx_Qi G (fun (r : Int32) (u : Nat → Int64) => r = 1 ∧ (r = 0 → u 0 = 0)) (fun (u : Nat → Int64) => [(o, .inl (G.2.2.1, 1, .inr (.inl u)))])) := by
  refine sx_startW (by decide) rfl (fun p e s m below meth c A ls F hr hlk hnm htab hP hD hS hl => ?_)
  obtain ⟨hx, hb, hml, hown, hts, hK, hE, hA⟩ := id F
  have hown : s.vm.findClass RL = some m.cls := hown
  generalize hHe : s.heap = H at hP
  have hS : va_S A s.heap H [] := by rw [← hHe]; exact va_S.rf
  have hl : lv_has ls 5 [(0, .ref h), (1, .int p0), (2, .int p1), (3, .ref o)] := hl
  refine lv_aload_n hx hb dL_from_0 rfl (lv_at hl 3 rfl) ?_
  refine lv_iconst (v := 0) hx hb dL_from_1 (by decide) ?_
  refine lv_aload_n hx hb dL_from_2 rfl (lv_at hl 0 rfl) ?_
  refine lv_iload_n hx hb dL_from_3 rfl (lv_at hl 1 rfl) ?_
  refine lv_iload_n hx hb dL_from_4 rfl (lv_at hl 2 rfl) ?_
  have hcut : sx_cut [(h, .inr (9, [.ref b, .ref pl, .ref cr, .ref te, .ref ca])), (ca, .inr (3, [.int 0, .int 0, .ref k2, .ref k3, .ref k4, .ref k5, .ref k6, .ref k7, .ref k8, .ref k9, .ref k10, .ref k11, .ref k12, .ref k13, .ref k14])), (o, .inl (G.2.2.1, 1, .inr (.inl g)))] [(h, .inr (9, [.ref b, .ref pl, .ref cr, .ref te, .ref ca])), (ca, .inr (3, [.int 0, .int 0, .ref k2, .ref k3, .ref k4, .ref k5, .ref k6, .ref k7, .ref k8, .ref k9, .ref k10, .ref k11, .ref k12, .ref k13, .ref k14]))] [(o, .inl (G.2.2.1, 1, .inr (.inl g)))] [0, 1] [2] := ⟨rfl, rfl, by decide, by decide, by decide⟩
  refine sx_xki (sx_xrunV (As := [.int p0, .int p1]) (rest := [.int 0, .ref o]) F (m_X7_from l hfl G H.size h b pl cr te ca k2 k3 k4 k5 k6 k7 k8 k9 k10 k11 k12 k13 k14 p0 p1) mi_X7_from q789 qs_X7_from q788 ⟨⟨Nat.le_of_ble_eq_true rfl, Nat.le_of_ble_eq_true rfl⟩, Nat.le_of_ble_eq_true rfl, Nat.le_of_ble_eq_true rfl⟩ hcut hP hD hS 0 9 rfl rfl rfl hl.1 rfl (Nat.le_of_ble_eq_true rfl) dL_from_5) hcut hP hD hS hA (fun E ce q9 H locs hw9 hP hD hS hce hcv hcl => ?_) (fun r_3 u_1 H locs w_2 hP hD hS => ?_)
  · have hP : va_P (sx_D G) vwCl [(o, .inl (G.2.2.1, 1, .inr (.inl g)))] H := hP
    have hD : va_D A [(o, .inl (G.2.2.1, 1, .inr (.inl g)))] := hD
    subst hw9
    refine vx_catch (own := RL) (E := "java/lang/IndexOutOfBoundsException") (name := "java/lang/IndexOutOfBoundsException") hown [] ({ startPc := 0, endPc := 10, handlerPc := 13, catchType := 21 } : ClassFile.ExceptionTableEntry) [] htab (fun z hz9 => absurd hz9 List.not_mem_nil) (by decide) (by decide) (hts _ q697) (hts _ q461) hce hcv hcl ?_
    refine lv_astore (lv' := [(4, .ref q9), (0, .ref h), (1, .int p0), (2, .int p1), (3, .ref o)]) hx hb dL_from_13 hl (by decide) rfl (fun ls hl => ?_)
    refine lv_iconst (v := 1) hx hb dL_from_15 (by decide) ?_
    exact (sx_iret (v := 1) (g) hx hb hr rfl hlk hP hD hS ⟨rfl, fun h => absurd h (by decide)⟩ dL_from_16 rfl rfl)
  · have hP : va_P (sx_D G) vwCl [(o, .inl (G.2.2.1, 1, .inr (.inl g)))] H := hP
    have hD : va_D A [(o, .inl (G.2.2.1, 1, .inr (.inl g)))] := hD
    exact w_2.elim
set_option maxHeartbeats 4000000 in
set_option maxRecDepth 100000 in
theorem m_L_wouldRun (l : Launch) (hfl : l.stackTraces = false) (G : sx_G) (sz : Nat) (h : Nat) (b : Nat) (pl : Nat) (cr : Nat) (te : Nat) (ca : Nat) (t1 : Nat) (t2 : Nat) (t3 : Nat) (p0 : Int32) (p1 : Int32) (o : Nat) (g : Nat → Int64) : sx_MetW l yL_wouldRun cL_wouldRun 5 (some .int) [(0, 10, 13, 21)] 8 125 1 6 G [.ref h, .int p0, .int p1, .ref o] [(h, .inr (9, [.ref b, .ref pl, .ref cr, .ref te, .ref ca])), (te, .inr (8, [.int 0, .ref t1, .ref t2, .ref t3])), (o, .inl (G.2.2.1, 1, .inr (.inl g)))] sz (sx_Qi G (fun (r : Int32) (u : Nat → Int64) => r = 1 ∧ (r = 0 → u 0 = 0)) (fun (u : Nat → Int64) => [(o, .inl (G.2.2.1, 1, .inr (.inl u)))])) := by
  refine sx_startW (by decide) rfl (fun p e s m below meth c A ls F hr hlk hnm htab hP hD hS hl => ?_)
  obtain ⟨hx, hb, hml, hown, hts, hK, hE, hA⟩ := id F
  have hown : s.vm.findClass RL = some m.cls := hown
  generalize hHe : s.heap = H at hP
  have hS : va_S A s.heap H [] := by rw [← hHe]; exact va_S.rf
  have hl : lv_has ls 5 [(0, .ref h), (1, .int p0), (2, .int p1), (3, .ref o)] := hl
  refine lv_aload_n hx hb dL_wouldRun_0 rfl (lv_at hl 3 rfl) ?_
  refine lv_iconst (v := 0) hx hb dL_wouldRun_1 (by decide) ?_
  refine lv_aload_n hx hb dL_wouldRun_2 rfl (lv_at hl 0 rfl) ?_
  refine lv_iload_n hx hb dL_wouldRun_3 rfl (lv_at hl 1 rfl) ?_
  refine lv_iload_n hx hb dL_wouldRun_4 rfl (lv_at hl 2 rfl) ?_
  have hcut : sx_cut [(h, .inr (9, [.ref b, .ref pl, .ref cr, .ref te, .ref ca])), (te, .inr (8, [.int 0, .ref t1, .ref t2, .ref t3])), (o, .inl (G.2.2.1, 1, .inr (.inl g)))] [(h, .inr (9, [.ref b, .ref pl, .ref cr, .ref te, .ref ca])), (te, .inr (8, [.int 0, .ref t1, .ref t2, .ref t3]))] [(o, .inl (G.2.2.1, 1, .inr (.inl g)))] [0, 1] [2] := ⟨rfl, rfl, by decide, by decide, by decide⟩
  refine sx_xki (sx_xrunV (As := [.int p0, .int p1]) (rest := [.int 0, .ref o]) F (m_X7_wouldRun l hfl G H.size h b pl cr te ca t1 t2 t3 p0 p1) mi_X7_wouldRun q800 qs_X7_wouldRun q799 ⟨⟨Nat.le_of_ble_eq_true rfl, Nat.le_of_ble_eq_true rfl⟩, Nat.le_of_ble_eq_true rfl, Nat.le_of_ble_eq_true rfl⟩ hcut hP hD hS 0 9 rfl rfl rfl hl.1 rfl (Nat.le_of_ble_eq_true rfl) dL_wouldRun_5) hcut hP hD hS hA (fun E ce q9 H locs hw9 hP hD hS hce hcv hcl => ?_) (fun r_3 u_1 H locs w_2 hP hD hS => ?_)
  · have hP : va_P (sx_D G) vwCl [(o, .inl (G.2.2.1, 1, .inr (.inl g)))] H := hP
    have hD : va_D A [(o, .inl (G.2.2.1, 1, .inr (.inl g)))] := hD
    subst hw9
    refine vx_catch (own := RL) (E := "java/lang/IndexOutOfBoundsException") (name := "java/lang/IndexOutOfBoundsException") hown [] ({ startPc := 0, endPc := 10, handlerPc := 13, catchType := 21 } : ClassFile.ExceptionTableEntry) [] htab (fun z hz9 => absurd hz9 List.not_mem_nil) (by decide) (by decide) (hts _ q697) (hts _ q461) hce hcv hcl ?_
    refine lv_astore (lv' := [(4, .ref q9), (0, .ref h), (1, .int p0), (2, .int p1), (3, .ref o)]) hx hb dL_wouldRun_13 hl (by decide) rfl (fun ls hl => ?_)
    refine lv_iconst (v := 1) hx hb dL_wouldRun_15 (by decide) ?_
    exact (sx_iret (v := 1) (g) hx hb hr rfl hlk hP hD hS ⟨rfl, fun h => absurd h (by decide)⟩ dL_wouldRun_16 rfl rfl)
  · have hP : va_P (sx_D G) vwCl [(o, .inl (G.2.2.1, 1, .inr (.inl g)))] H := hP
    have hD : va_D A [(o, .inl (G.2.2.1, 1, .inr (.inl g)))] := hD
    exact w_2.elim
set_option maxHeartbeats 4000000 in
set_option maxRecDepth 100000 in
theorem m_L_wouldBeWrong (l : Launch) (hfl : l.stackTraces = false) (G : sx_G) (sz : Nat) (h : Nat) (b : Nat) (pl : Nat) (cr : Nat) (te : Nat) (ca : Nat) (t1 : Nat) (t2 : Nat) (t3 : Nat) (p0 : Int32) (p1 : Int32) (o : Nat) (g : Nat → Int64) : sx_MetW l yL_wouldBeWrong cL_wouldBeWrong 5 (some .int) [(0, 17, 20, 21)] 8 125 1 6 G [.ref h, .int p0, .int p1, .ref o] [(h, .inr (9, [.ref b, .ref pl, .ref cr, .ref te, .ref ca])), (te, .inr (8, [.int 0, .ref t1, .ref t2, .ref t3])), (o, .inl (G.2.2.1, 1, .inr (.inl g)))] sz (sx_Qi G (fun (r : Int32) (u : Nat → Int64) => r = 1 ∧ (r = 0 → u 0 = 0)) (fun (u : Nat → Int64) => [(o, .inl (G.2.2.1, 1, .inr (.inl u)))])) := by
  refine sx_startW (by decide) rfl (fun p e s m below meth c A ls F hr hlk hnm htab hP hD hS hl => ?_)
  obtain ⟨hx, hb, hml, hown, hts, hK, hE, hA⟩ := id F
  have hown : s.vm.findClass RL = some m.cls := hown
  generalize hHe : s.heap = H at hP
  have hS : va_S A s.heap H [] := by rw [← hHe]; exact va_S.rf
  have hl : lv_has ls 5 [(0, .ref h), (1, .int p0), (2, .int p1), (3, .ref o)] := hl
  refine lv_aload_n hx hb dL_wouldBeWrong_0 rfl (lv_at hl 3 rfl) ?_
  refine lv_iconst (v := 0) hx hb dL_wouldBeWrong_1 (by decide) ?_
  refine lv_aload_n hx hb dL_wouldBeWrong_2 rfl (lv_at hl 0 rfl) ?_
  refine lv_iload_n hx hb dL_wouldBeWrong_3 rfl (lv_at hl 1 rfl) ?_
  refine lv_iload_n hx hb dL_wouldBeWrong_4 rfl (lv_at hl 2 rfl) ?_
  have hcut : sx_cut [(h, .inr (9, [.ref b, .ref pl, .ref cr, .ref te, .ref ca])), (te, .inr (8, [.int 0, .ref t1, .ref t2, .ref t3])), (o, .inl (G.2.2.1, 1, .inr (.inl g)))] [(h, .inr (9, [.ref b, .ref pl, .ref cr, .ref te, .ref ca])), (te, .inr (8, [.int 0, .ref t1, .ref t2, .ref t3]))] [(o, .inl (G.2.2.1, 1, .inr (.inl g)))] [0, 1] [2] := ⟨rfl, rfl, by decide, by decide, by decide⟩
  refine sx_xki (sx_xrunV (As := [.int p0, .int p1]) (rest := [.int 0, .ref o]) F (m_X7_wouldBeWrong l hfl G H.size h b pl cr te ca t1 t2 t3 p0 p1) mi_X7_wouldBeWrong q807 qs_X7_wouldBeWrong q806 ⟨⟨Nat.le_of_ble_eq_true rfl, Nat.le_of_ble_eq_true rfl⟩, Nat.le_of_ble_eq_true rfl, Nat.le_of_ble_eq_true rfl⟩ hcut hP hD hS 0 9 rfl rfl rfl hl.1 rfl (Nat.le_of_ble_eq_true rfl) dL_wouldBeWrong_5) hcut hP hD hS hA (fun E ce q9 H locs hw9 hP hD hS hce hcv hcl => ?_) (fun r_3 u_1 H locs w_2 hP hD hS => ?_)
  · have hP : va_P (sx_D G) vwCl [(o, .inl (G.2.2.1, 1, .inr (.inl g)))] H := hP
    have hD : va_D A [(o, .inl (G.2.2.1, 1, .inr (.inl g)))] := hD
    subst hw9
    refine vx_catch (own := RL) (E := "java/lang/IndexOutOfBoundsException") (name := "java/lang/IndexOutOfBoundsException") hown [] ({ startPc := 0, endPc := 17, handlerPc := 20, catchType := 21 } : ClassFile.ExceptionTableEntry) [] htab (fun z hz9 => absurd hz9 List.not_mem_nil) (by decide) (by decide) (hts _ q697) (hts _ q461) hce hcv hcl ?_
    refine lv_astore (lv' := [(4, .ref q9), (0, .ref h), (1, .int p0), (2, .int p1), (3, .ref o)]) hx hb dL_wouldBeWrong_20 hl (by decide) rfl (fun ls hl => ?_)
    refine lv_iconst (v := 1) hx hb dL_wouldBeWrong_22 (by decide) ?_
    exact (sx_iret (v := 1) (g) hx hb hr rfl hlk hP hD hS ⟨rfl, fun h => absurd h (by decide)⟩ dL_wouldBeWrong_23 rfl rfl)
  · have hP : va_P (sx_D G) vwCl [(o, .inl (G.2.2.1, 1, .inr (.inl g)))] H := hP
    have hD : va_D A [(o, .inl (G.2.2.1, 1, .inr (.inl g)))] := hD
    exact w_2.elim
set_option maxHeartbeats 4000000 in
set_option maxRecDepth 100000 in
theorem m_L_wouldGo (l : Launch) (hfl : l.stackTraces = false) (G : sx_G) (sz : Nat) (h : Nat) (b : Nat) (pl : Nat) (cr : Nat) (te : Nat) (ca : Nat) (t1 : Nat) (t2 : Nat) (t3 : Nat) (p0 : Int32) (p1 : Int32) (o : Nat) (g : Nat → Int64) : sx_MetW l yL_wouldGo cL_wouldGo 5 (some .int) [(0, 10, 13, 21), (0, 10, 17, 13)] 8 125 1 6 G [.ref h, .int p0, .int p1, .ref o] [(h, .inr (9, [.ref b, .ref pl, .ref cr, .ref te, .ref ca])), (te, .inr (8, [.int 0, .ref t1, .ref t2, .ref t3])), (o, .inl (G.2.2.1, 1, .inr (.inl g)))] sz (sx_Qi G (fun (r : Int32) (u : Nat → Int64) => r = 1 ∧ (r = 0 → u 0 = 0)) (fun (u : Nat → Int64) => [(o, .inl (G.2.2.1, 1, .inr (.inl u)))])) := by
  refine sx_startW (by decide) rfl (fun p e s m below meth c A ls F hr hlk hnm htab hP hD hS hl => ?_)
  obtain ⟨hx, hb, hml, hown, hts, hK, hE, hA⟩ := id F
  have hown : s.vm.findClass RL = some m.cls := hown
  generalize hHe : s.heap = H at hP
  have hS : va_S A s.heap H [] := by rw [← hHe]; exact va_S.rf
  have hl : lv_has ls 5 [(0, .ref h), (1, .int p0), (2, .int p1), (3, .ref o)] := hl
  refine lv_aload_n hx hb dL_wouldGo_0 rfl (lv_at hl 3 rfl) ?_
  refine lv_iconst (v := 0) hx hb dL_wouldGo_1 (by decide) ?_
  refine lv_aload_n hx hb dL_wouldGo_2 rfl (lv_at hl 0 rfl) ?_
  refine lv_iload_n hx hb dL_wouldGo_3 rfl (lv_at hl 1 rfl) ?_
  refine lv_iload_n hx hb dL_wouldGo_4 rfl (lv_at hl 2 rfl) ?_
  have hcut : sx_cut [(h, .inr (9, [.ref b, .ref pl, .ref cr, .ref te, .ref ca])), (te, .inr (8, [.int 0, .ref t1, .ref t2, .ref t3])), (o, .inl (G.2.2.1, 1, .inr (.inl g)))] [(h, .inr (9, [.ref b, .ref pl, .ref cr, .ref te, .ref ca])), (te, .inr (8, [.int 0, .ref t1, .ref t2, .ref t3]))] [(o, .inl (G.2.2.1, 1, .inr (.inl g)))] [0, 1] [2] := ⟨rfl, rfl, by decide, by decide, by decide⟩
  refine sx_xki (sx_xrunV (As := [.int p0, .int p1]) (rest := [.int 0, .ref o]) F (m_X7_wouldGo l hfl G H.size h b pl cr te ca t1 t2 t3 p0 p1) mi_X7_wouldGo q823 qs_X7_wouldGo q822 ⟨⟨Nat.le_of_ble_eq_true rfl, Nat.le_of_ble_eq_true rfl⟩, Nat.le_of_ble_eq_true rfl, Nat.le_of_ble_eq_true rfl⟩ hcut hP hD hS 0 9 rfl rfl rfl hl.1 rfl (Nat.le_of_ble_eq_true rfl) dL_wouldGo_5) hcut hP hD hS hA (fun E ce q9 H locs hw9 hP hD hS hce hcv hcl => ?_) (fun r_3 u_1 H locs w_2 hP hD hS => ?_)
  · have hP : va_P (sx_D G) vwCl [(o, .inl (G.2.2.1, 1, .inr (.inl g)))] H := hP
    have hD : va_D A [(o, .inl (G.2.2.1, 1, .inr (.inl g)))] := hD
    subst hw9
    refine vx_catch (own := RL) (E := "java/lang/IndexOutOfBoundsException") (name := "java/lang/IndexOutOfBoundsException") hown [] ({ startPc := 0, endPc := 10, handlerPc := 13, catchType := 21 } : ClassFile.ExceptionTableEntry) [({ startPc := 0, endPc := 10, handlerPc := 17, catchType := 13 } : ClassFile.ExceptionTableEntry)] htab (fun z hz9 => absurd hz9 List.not_mem_nil) (by decide) (by decide) (hts _ q697) (hts _ q461) hce hcv hcl ?_
    refine lv_astore (lv' := [(4, .ref q9), (0, .ref h), (1, .int p0), (2, .int p1), (3, .ref o)]) hx hb dL_wouldGo_13 hl (by decide) rfl (fun ls hl => ?_)
    refine lv_iconst (v := 1) hx hb dL_wouldGo_15 (by decide) ?_
    exact (sx_iret (v := 1) (g) hx hb hr rfl hlk hP hD hS ⟨rfl, fun h => absurd h (by decide)⟩ dL_wouldGo_16 rfl rfl)
  · have hP : va_P (sx_D G) vwCl [(o, .inl (G.2.2.1, 1, .inr (.inl g)))] H := hP
    have hD : va_D A [(o, .inl (G.2.2.1, 1, .inr (.inl g)))] := hD
    exact w_2.elim
