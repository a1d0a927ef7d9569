/-! pure words: what goes -/
theorem offN_b {fs : Nat → Nat} {e n : Nat} (he : e < 60) (hn : n ≤ 60) : offN fs e n < 2 ^ 62 := by
  refine sDf_b ?_
  exact Nat.lt_of_lt_of_le (famN_b fs e (n - (e + 1))) (Nat.pow_le_pow_right (by decide) (by omega))
theorem offN_or {fs : Nat → Nat} {e n : Nat} (he : e < 60) (hn : n ≤ 60) : (offN fs e n ||| 2 ^ e) < 2 ^ 62 := Nat.or_lt_two_pow (offN_b he hn) (Nat.pow_lt_pow_right (by decide) (by omega))
theorem poisN_0 (S e : Nat) (st : Nat → Nat) : poisN S e st (e + 0) = st := funext fun k => if_neg (by omega)
theorem poisN_t {S e i : Nat} {st : Nat → Nat} (h : S.testBit (e + i) = true) : poisN S e st (e + (i + 1)) = sU (poisN S e st (e + i)) (e + i) 2 := by
  funext k
  by_cases q : k = e + i
  · subst q; rw [sU_s]; exact if_pos ⟨by omega, by omega, h⟩
  · rw [sU_n _ _ q]
    unfold poisN
    by_cases r : e ≤ k ∧ k < e + i ∧ S.testBit k = true
    · rw [if_pos r, if_pos ⟨r.1, by omega, r.2.2⟩]
    · rw [if_neg r, if_neg (fun h9 => r ⟨h9.1, by omega, h9.2.2⟩)]
theorem poisN_f {S e i : Nat} {st : Nat → Nat} (h : S.testBit (e + i) = false) : poisN S e st (e + (i + 1)) = poisN S e st (e + i) := by
  funext k
  unfold poisN
  by_cases r : e ≤ k ∧ k < e + i ∧ S.testBit k = true
  · rw [if_pos r, if_pos ⟨r.1, by omega, r.2.2⟩]
  · rw [if_neg r, if_neg (fun h9 => r ⟨h9.1, by
      have : k ≠ e + i := fun q => by rw [q, h] at h9; exact absurd h9.2.2 (by decide)
      omega, h9.2.2⟩)]
theorem dropN_0 (ac : Nat → Nat) (a : Nat) (st : Nat → Nat) : dropN ac a st 0 = st := funext fun k => if_neg (by omega)
theorem dropN_i (ac : Nat → Nat) (a : Nat) (st : Nat → Nat) (i : Nat) : dropN ac a st i i = st i := if_neg (by omega)
theorem dropN_t {ac : Nat → Nat} {a i : Nat} {st : Nat → Nat} (h1 : ac i = a) (h2 : st i = 0) : dropN ac a st (i + 1) = sU (dropN ac a st i) i 1 := by
  funext k
  by_cases q : k = i
  · subst q; rw [sU_s]; exact if_pos ⟨by omega, h1, h2⟩
  · rw [sU_n _ _ q]
    unfold dropN
    by_cases r : k < i ∧ ac k = a ∧ st k = 0
    · rw [if_pos r, if_pos ⟨by omega, r.2⟩]
    · rw [if_neg r, if_neg (fun h9 => r ⟨by omega, h9.2⟩)]
theorem dropN_f {ac : Nat → Nat} {a i : Nat} {st : Nat → Nat} (h : ¬ (ac i = a ∧ st i = 0)) : dropN ac a st (i + 1) = dropN ac a st i := by
  funext k
  unfold dropN
  by_cases r : k < i ∧ ac k = a ∧ st k = 0
  · rw [if_pos r, if_pos ⟨by omega, r.2⟩]
  · rw [if_neg r, if_neg (fun h9 => r ⟨by
      have : k ≠ i := fun q => by subst q; exact h h9.2
      omega, h9.2⟩)]
theorem dropN_b {ac : Nat → Nat} {a n : Nat} {st : Nat → Nat} (h : ∀ k, st k ≤ 2) (k : Nat) : dropN ac a st n k ≤ 2 := by
  unfold dropN
  split
  · omega
  · exact h k
theorem worN_lt {a b : Nat} (c : Nat) (h1 : a ≤ 50) (h2 : b ≤ 100000) : worN a b c < 2147483648 := by
  have h := worN_b h1 (Nat.succ_le_succ h2)
  have h3 := Nat.div_le_self (a * (b + 1) * 10) c
  unfold worN
  split
  · decide
  · omega
abbrev leaN (tm st sz co hi : Nat → Nat) (o : Nat) (n : Nat) : Nat := lowN (fun e => tm e = o ∧ st e = 0) (fun e => worN (co e) (hi e) (sz e)) n
theorem leaN_s (tm st sz co hi : Nat → Nat) (o n : Nat) : leaN tm st sz co hi o (n + 1) = if (tm n = o ∧ st n = 0) ∧ (leaN tm st sz co hi o n = 0 ∨ worN (co n) (hi n) (sz n) < worN (co (leaN tm st sz co hi o n - 1)) (hi (leaN tm st sz co hi o n - 1)) (sz (leaN tm st sz co hi o n - 1))) then n + 1 else leaN tm st sz co hi o n := rfl
theorem leaN_le (tm st sz co hi : Nat → Nat) (o n : Nat) : leaN tm st sz co hi o n ≤ n := lowN_le _ _ n
set_option maxHeartbeats 4000000 in
set_option maxRecDepth 100000 in
theorem m_X1_offspring (l : Launch) (G : sx_G) (sz : Nat) (caq : Nat) (caN : Nat) (caW : Nat) (ca2 : Nat) (ca3 : Nat) (ca4 : Nat) (ca5 : Nat) (ca6 : Nat) (ca7 : Nat) (ca8 : Nat) (ca9 : Nat) (ca10 : Nat) (ca11 : Nat) (ca12 : Nat) (ca13 : Nat) (ca14 : Nat) (xFs : Nat → Nat) (ei : Nat) (h_n : caN ≤ 60) (h_fs : ∀ k, xFs k < 2 ^ 60) (h_e : ei < 60) : sx_Met l yX1_offspring cX1_offspring 5 (some .long) 0 0 0 0 G [.ref caq, .int (nI ei)] [(caq, .inr (1, [.int (nI caN), .int (nI caW), .ref ca2, .ref ca3, .ref ca4, .ref ca5, .ref ca6, .ref ca7, .ref ca8, .ref ca9, .ref ca10, .ref ca11, .ref ca12, .ref ca13, .ref ca14])), (ca14, .inl (G.2.2.1, 60, .inr (.inl (fun k => lN (xFs k)))))] sz (sx_Ql G (fun (r : Int64) (u : Unit) => r = lN (offN xFs ei caN)) (fun (u : Unit) => [(caq, .inr (1, [.int (nI caN), .int (nI caW), .ref ca2, .ref ca3, .ref ca4, .ref ca5, .ref ca6, .ref ca7, .ref ca8, .ref ca9, .ref ca10, .ref ca11, .ref ca12, .ref ca13, .ref ca14])), (ca14, .inl (G.2.2.1, 60, .inr (.inl (fun k => lN (xFs k)))))])) := by
  refine sx_start (by decide) rfl (fun p e s m below meth c A ls F hr hlk hnm hP hD hS hl => ?_)
  obtain ⟨hx, hb, hml, hown, hts, hK, hE, hA⟩ := id F
  have hown : s.vm.findClass RX1 = some m.cls := hown
  generalize hHe : s.heap = H at hP
  have hS : va_S A s.heap H [] := by rw [← hHe]; exact va_S.rf
  have hl : lv_has ls 5 [(0, .ref caq), (1, .int (nI ei))] := hl
  refine lv_lconst (v := 1) hx hb dX1_offspring_0 (by decide) ?_
  refine lv_iload_n hx hb dX1_offspring_1 rfl (lv_at hl 1 rfl) ?_
  refine lv_lshl (v := lN (2 ^ ei)) hx hb dX1_offspring_2 (sx_shl1L (k := ei) (by omega)) ?_
  refine lv_lstore_n (lv' := [(2, .long (lN (2 ^ ei))), (0, .ref caq), (1, .int (nI ei))]) hx hb dX1_offspring_3 rfl hl (by decide) rfl (fun ls hl => ?_)
  refine lv_iload_n hx hb dX1_offspring_4 rfl (lv_at hl 2 rfl) ?_
  refine lv_iconst (v := 1) hx hb dX1_offspring_5 (by decide) ?_
  refine lv_iadd hx hb dX1_offspring_6 ?_
  refine sx_topI (nI_add ei 1) ?_
  refine lv_istore (lv' := [(4, .int (nI (ei + 1))), (2, .long (lN (2 ^ ei))), (0, .ref caq), (1, .int (nI ei))]) hx hb dX1_offspring_7 hl (by decide) rfl (fun ls hl => ?_)
  refine sx_loop (nL := 5) (fun i => [(caq, .inr (1, [.int (nI caN), .int (nI caW), .ref ca2, .ref ca3, .ref ca4, .ref ca5, .ref ca6, .ref ca7, .ref ca8, .ref ca9, .ref ca10, .ref ca11, .ref ca12, .ref ca13, .ref ca14])), (ca14, .inl (G.2.2.1, 60, .inr (.inl (fun k => lN (xFs k)))))]) (fun i => [(2, .long (lN (famN xFs ei i))), (4, .int (nI (ei + 1 + i))), (0, .ref caq), (1, .int (nI ei))]) (fun i => True) (caN - (ei + 1)) trivial hP hD hS (lv_sub hl [1, 0, 2, 3] rfl) (fun i_1 hi_i_1 hI_i_1 H locs ls hP hD hS hl ih_i_1 => ?_)
  have hP : va_P (sx_D G) vwCl [(caq, .inr (1, [.int (nI caN), .int (nI caW), .ref ca2, .ref ca3, .ref ca4, .ref ca5, .ref ca6, .ref ca7, .ref ca8, .ref ca9, .ref ca10, .ref ca11, .ref ca12, .ref ca13, .ref ca14])), (ca14, .inl (G.2.2.1, 60, .inr (.inl (fun k => lN (xFs k)))))] H := hP
  have hD : va_D A [(caq, .inr (1, [.int (nI caN), .int (nI caW), .ref ca2, .ref ca3, .ref ca4, .ref ca5, .ref ca6, .ref ca7, .ref ca8, .ref ca9, .ref ca10, .ref ca11, .ref ca12, .ref ca13, .ref ca14])), (ca14, .inl (G.2.2.1, 60, .inr (.inl (fun k => lN (xFs k)))))] := hD
  have hl : lv_has ls 5 [(2, .long (lN (famN xFs ei i_1))), (4, .int (nI (ei + 1 + i_1))), (0, .ref caq), (1, .int (nI ei))] := hl
  have hI_i_1 : True := hI_i_1
  refine lv_iload hx hb dX1_offspring_9 (lv_at hl 1 rfl) ?_
  refine lv_aload_n hx hb dX1_offspring_11 rfl (lv_at hl 2 rfl) ?_
  refine va_get (D := sx_D G) (ci := 1) (v := .int (nI caN)) (C := RX1) (T := TX1) (N := 15) hx hb hts inX1 hown hK hP 0 rfl rfl 0 (by decide) (hts _ q163) (fun _ h9 => h9) rfl dX1_offspring_12 ?_
  refine lv_icmp_ge (tgt := 45) hx hb dX1_offspring_15 (by decide) (fun c_2 => ?_) (fun c_2 => ?_)
  · have c_2 : caN ≤ (ei + 1 + i_1) := by have h9 : ((caN : Nat) : Int) ≤ ((ei + 1 + i_1 : Nat) : Int) := (sJ_le (a := ((caN : Nat) : Int)) (b := ((ei + 1 + i_1 : Nat) : Int)) (by omega) (by omega) (by omega) (by omega)).mp c_2; omega
    refine lv_lload_n hx hb dX1_offspring_45 rfl (lv_at hl 0 rfl) ?_
    refine lv_lconst (v := 1) hx hb dX1_offspring_46 (by decide) ?_
    refine lv_iload_n hx hb dX1_offspring_47 rfl (lv_at hl 3 rfl) ?_
    refine lv_lshl (v := lN (2 ^ ei)) hx hb dX1_offspring_48 (sx_shl1L (k := ei) (by omega)) ?_
    refine lv_ldc2 (v := (-1)) hx hb hown (hts _ q645) dX1_offspring_49 ?_
    refine lv_lxor hx hb dX1_offspring_52 ?_
    refine lv_land hx hb dX1_offspring_53 ?_
    refine sx_topL (sx_andnL (famN xFs ei i_1) (2 ^ ei)) ?_
    exact (sx_lret (v := lN (sDf (famN xFs ei i_1) (2 ^ ei))) () hx hb hr hlk hP hD hS (congrArg (fun z => lN (sDf (famN xFs ei z) (2 ^ ei))) (by omega)) dX1_offspring_54 rfl rfl)
  · have c_2 : ¬ (caN ≤ (ei + 1 + i_1)) := by have h9 : ¬ (((caN : Nat) : Int) ≤ ((ei + 1 + i_1 : Nat) : Int)) := fun h => c_2 ((sJ_le (a := ((caN : Nat) : Int)) (b := ((ei + 1 + i_1 : Nat) : Int)) (by omega) (by omega) (by omega) (by omega)).mpr h); omega
    refine lv_aload_n hx hb dX1_offspring_18 rfl (lv_at hl 2 rfl) ?_
    refine va_get (D := sx_D G) (ci := 1) (v := .ref ca14) (C := RX1) (T := TX1) (N := 15) hx hb hts inX1 hown hK hP 0 rfl rfl 14 (by decide) (hts _ q198) (fun _ h9 => h9) rfl dX1_offspring_19 ?_
    refine lv_iload hx hb dX1_offspring_22 (lv_at hl 1 rfl) ?_
    refine sx_lld (X := (ei + 1 + i_1)) hx hb hK hP 1 rfl (by omega) rfl dX1_offspring_24 ?_
    refine lv_lload_n hx hb dX1_offspring_25 rfl (lv_at hl 0 rfl) ?_
    refine lv_land hx hb dX1_offspring_26 ?_
    refine sx_topL (sx_andL (xFs (ei + 1 + i_1)) (famN xFs ei i_1)) ?_
    refine lv_lconst (v := 0) hx hb dX1_offspring_27 (by decide) ?_
    refine W.lcmp hx hb dX1_offspring_28 ?_
    refine sx_topI (sC_of (a := ((xFs (ei + 1 + i_1)) &&& (famN xFs ei i_1))) (b := 0) (Nat.lt_trans (and_b (h_fs _)) (by decide)) (by omega)) ?_
    refine lv_if_eq (tgt := 39) hx hb dX1_offspring_29 (by decide) (fun c_3 => ?_) (fun c_3 => ?_)
    · have c_3 := sC_0.mp c_3
      refine lv_iinc (v := nI ((ei + 1 + i_1) + 1)) (lv' := [(4, .int (nI ((ei + 1 + i_1) + 1))), (2, .long (lN (famN xFs ei i_1))), (0, .ref caq), (1, .int (nI ei))]) hx hb dX1_offspring_39 hl (k := 1) rfl ((congrArg (fun t => nI (ei + 1 + i_1) + t) (show Int32.ofInt 1 = nI 1 by decide +kernel)).trans (nI_add (ei + 1 + i_1) 1)) (by decide) rfl (fun ls hl => ?_)
      refine lv_goto (tgt := 9) hx hb dX1_offspring_42 (by decide) ?_
      have e9_0 : famN xFs ei (i_1 + 1) = (famN xFs ei i_1) := (by rw [famN_s, if_pos c_3])
      have hl : lv_has ls 5 [(2, .long (lN (famN xFs ei (i_1 + 1)))), (4, .int (nI (ei + 1 + (i_1 + 1)))), (0, .ref caq), (1, .int (nI ei))] := by rw [e9_0]; exact lv_sub hl [1, 0, 2, 3] rfl
      exact ih_i_1 _ _ _ (by omega) trivial hP hD hS hl
    · have c_3 := fun h => c_3 (sC_0.mpr h)
      refine lv_lload_n hx hb dX1_offspring_32 rfl (lv_at hl 0 rfl) ?_
      refine lv_lconst (v := 1) hx hb dX1_offspring_33 (by decide) ?_
      refine lv_iload hx hb dX1_offspring_34 (lv_at hl 1 rfl) ?_
      refine lv_lshl (v := lN (2 ^ (ei + 1 + i_1))) hx hb dX1_offspring_36 (sx_shl1L (k := (ei + 1 + i_1)) (by omega)) ?_
      refine lv_lor hx hb dX1_offspring_37 ?_
      refine sx_topL (sx_orL (famN xFs ei i_1) (2 ^ (ei + 1 + i_1))) ?_
      refine lv_lstore_n (lv' := [(2, .long (lN ((famN xFs ei i_1) ||| (2 ^ (ei + 1 + i_1))))), (4, .int (nI (ei + 1 + i_1))), (0, .ref caq), (1, .int (nI ei))]) hx hb dX1_offspring_38 rfl hl (by decide) rfl (fun ls hl => ?_)
      refine lv_iinc (v := nI ((ei + 1 + i_1) + 1)) (lv' := [(4, .int (nI ((ei + 1 + i_1) + 1))), (2, .long (lN ((famN xFs ei i_1) ||| (2 ^ (ei + 1 + i_1))))), (0, .ref caq), (1, .int (nI ei))]) hx hb dX1_offspring_39 hl (k := 1) rfl ((congrArg (fun t => nI (ei + 1 + i_1) + t) (show Int32.ofInt 1 = nI 1 by decide +kernel)).trans (nI_add (ei + 1 + i_1) 1)) (by decide) rfl (fun ls hl => ?_)
      refine lv_goto (tgt := 9) hx hb dX1_offspring_42 (by decide) ?_
      have e9_0 : famN xFs ei (i_1 + 1) = ((famN xFs ei i_1) ||| (2 ^ (ei + 1 + i_1))) := (by rw [famN_s, if_neg c_3])
      have hl : lv_has ls 5 [(2, .long (lN (famN xFs ei (i_1 + 1)))), (4, .int (nI (ei + 1 + (i_1 + 1)))), (0, .ref caq), (1, .int (nI ei))] := by rw [e9_0]; exact lv_sub hl [1, 0, 2, 3] rfl
      exact ih_i_1 _ _ _ (by omega) trivial hP hD hS hl
set_option maxHeartbeats 4000000 in
set_option maxRecDepth 100000 in
theorem m_X1_poison (l : Launch) (G : sx_G) (sz : Nat) (caq : Nat) (caN : Nat) (caW : Nat) (ca2 : Nat) (ca3 : Nat) (ca4 : Nat) (ca5 : Nat) (ca6 : Nat) (ca7 : Nat) (ca8 : Nat) (ca9 : Nat) (ca10 : Nat) (ca11 : Nat) (ca12 : Nat) (ca13 : Nat) (ca14 : Nat) (xFs : Nat → Nat) (xSt : Nat → Nat) (ei : Nat) (h_n : caN ≤ 60) (h_fs : ∀ k, xFs k < 2 ^ 60) (h_e : ei < caN) : sx_Met l yX1_poison cX1_poison 5 none 1 24 0 0 G [.ref caq, .int (nI ei)] [(caq, .inr (1, [.int (nI caN), .int (nI caW), .ref ca2, .ref ca3, .ref ca4, .ref ca5, .ref ca6, .ref ca7, .ref ca8, .ref ca9, .ref ca10, .ref ca11, .ref ca12, .ref ca13, .ref ca14])), (ca14, .inl (G.2.2.1, 60, .inr (.inl (fun k => lN (xFs k))))), (ca7, .inl (G.2.1, 60, .inl (fun k => nI (xSt k))))] sz (sx_Qv G (fun (u : Unit) => True) (fun (u : Unit) => [(caq, .inr (1, [.int (nI caN), .int (nI caW), .ref ca2, .ref ca3, .ref ca4, .ref ca5, .ref ca6, .ref ca7, .ref ca8, .ref ca9, .ref ca10, .ref ca11, .ref ca12, .ref ca13, .ref ca14])), (ca14, .inl (G.2.2.1, 60, .inr (.inl (fun k => lN (xFs k))))), (ca7, .inl (G.2.1, 60, .inl (fun k => nI ((poisN (offN xFs ei caN ||| 2 ^ ei) ei xSt caN) k))))])) := by
  refine sx_start (by decide) rfl (fun p e s m below meth c A ls F hr hlk hnm hP hD hS hl => ?_)
  obtain ⟨hx, hb, hml, hown, hts, hK, hE, hA⟩ := id F
  have hown : s.vm.findClass RX1 = some m.cls := hown
  generalize hHe : s.heap = H at hP
  have hS : va_S A s.heap H [] := by rw [← hHe]; exact va_S.rf
  have hl : lv_has ls 5 [(0, .ref caq), (1, .int (nI ei))] := hl
  refine lv_aload_n hx hb dX1_poison_0 rfl (lv_at hl 0 rfl) ?_
  refine lv_iload_n hx hb dX1_poison_1 rfl (lv_at hl 1 rfl) ?_
  have hcut : sx_cut [(caq, .inr (1, [.int (nI caN), .int (nI caW), .ref ca2, .ref ca3, .ref ca4, .ref ca5, .ref ca6, .ref ca7, .ref ca8, .ref ca9, .ref ca10, .ref ca11, .ref ca12, .ref ca13, .ref ca14])), (ca14, .inl (G.2.2.1, 60, .inr (.inl (fun k => lN (xFs k))))), (ca7, .inl (G.2.1, 60, .inl (fun k => nI (xSt k))))] [(caq, .inr (1, [.int (nI caN), .int (nI caW), .ref ca2, .ref ca3, .ref ca4, .ref ca5, .ref ca6, .ref ca7, .ref ca8, .ref ca9, .ref ca10, .ref ca11, .ref ca12, .ref ca13, .ref ca14])), (ca14, .inl (G.2.2.1, 60, .inr (.inl (fun k => lN (xFs k)))))] [(ca7, .inl (G.2.1, 60, .inl (fun k => nI (xSt k))))] [0, 1] [2] := ⟨rfl, rfl, by decide, by decide, by decide⟩
  refine sx_kl (sx_runV (As := [.int (nI ei)]) (rest := []) F (m_X1_offspring l G H.size caq caN caW ca2 ca3 ca4 ca5 ca6 ca7 ca8 ca9 ca10 ca11 ca12 ca13 ca14 xFs ei (show caN ≤ 60 from (by first | assumption | omega)) (show ∀ k, xFs k < 2 ^ 60 from (by first | assumption | omega)) (show ei < 60 from (by first | assumption | omega))) mi_X1_offspring q642 qs_X1_offspring q641 ⟨⟨Nat.le_of_ble_eq_true rfl, Nat.le_of_ble_eq_true rfl⟩, Nat.le_of_ble_eq_true rfl, Nat.le_of_ble_eq_true rfl⟩ hcut hP hD hS 0 1 rfl rfl rfl hl.1 rfl (Nat.le_of_ble_eq_true rfl) dX1_poison_2) hcut hP hD hS hA (fun r_3 u_1 H locs w_2 hP hD hS => ?_)
  have hP : va_P (sx_D G) vwCl [(ca7, .inl (G.2.1, 60, .inl (fun k => nI (xSt k)))), (caq, .inr (1, [.int (nI caN), .int (nI caW), .ref ca2, .ref ca3, .ref ca4, .ref ca5, .ref ca6, .ref ca7, .ref ca8, .ref ca9, .ref ca10, .ref ca11, .ref ca12, .ref ca13, .ref ca14])), (ca14, .inl (G.2.2.1, 60, .inr (.inl (fun k => lN (xFs k)))))] H := hP
  have hD : va_D A [(ca7, .inl (G.2.1, 60, .inl (fun k => nI (xSt k)))), (caq, .inr (1, [.int (nI caN), .int (nI caW), .ref ca2, .ref ca3, .ref ca4, .ref ca5, .ref ca6, .ref ca7, .ref ca8, .ref ca9, .ref ca10, .ref ca11, .ref ca12, .ref ca13, .ref ca14])), (ca14, .inl (G.2.2.1, 60, .inr (.inl (fun k => lN (xFs k)))))] := hD
  have w_2 : r_3 = lN (offN xFs ei caN) := w_2
  subst w_2
  refine lv_lconst (v := 1) hx hb dX1_poison_5 (by decide) ?_
  refine lv_iload_n hx hb dX1_poison_6 rfl (lv_at hl 1 rfl) ?_
  refine lv_lshl (v := lN (2 ^ ei)) hx hb dX1_poison_7 (sx_shl1L (k := ei) (by omega)) ?_
  refine lv_lor hx hb dX1_poison_8 ?_
  refine sx_topL (sx_orL (offN xFs ei caN) (2 ^ ei)) ?_
  refine lv_lstore_n (lv' := [(2, .long (lN ((offN xFs ei caN) ||| (2 ^ ei)))), (0, .ref caq), (1, .int (nI ei))]) hx hb dX1_poison_9 rfl hl (by decide) rfl (fun ls hl => ?_)
  refine lv_iload_n hx hb dX1_poison_10 rfl (lv_at hl 2 rfl) ?_
  refine lv_istore (lv' := [(4, .int (nI ei)), (2, .long (lN ((offN xFs ei caN) ||| (2 ^ ei)))), (0, .ref caq), (1, .int (nI ei))]) hx hb dX1_poison_11 hl (by decide) rfl (fun ls hl => ?_)
  have h_sp := @offN_or xFs ei caN (by omega) h_n
  have e7_0 : poisN (offN xFs ei caN ||| 2 ^ ei) ei xSt (ei + 0) = xSt := (poisN_0 _ _ _)
  have hP : va_P (sx_D G) vwCl [(ca7, .inl (G.2.1, 60, .inl (fun k => nI ((poisN (offN xFs ei caN ||| 2 ^ ei) ei xSt (ei + 0)) k)))), (caq, .inr (1, [.int (nI caN), .int (nI caW), .ref ca2, .ref ca3, .ref ca4, .ref ca5, .ref ca6, .ref ca7, .ref ca8, .ref ca9, .ref ca10, .ref ca11, .ref ca12, .ref ca13, .ref ca14])), (ca14, .inl (G.2.2.1, 60, .inr (.inl (fun k => lN (xFs k)))))] H := by rw [e7_0]; exact hP
  have hD : va_D A [(ca7, .inl (G.2.1, 60, .inl (fun k => nI ((poisN (offN xFs ei caN ||| 2 ^ ei) ei xSt (ei + 0)) k)))), (caq, .inr (1, [.int (nI caN), .int (nI caW), .ref ca2, .ref ca3, .ref ca4, .ref ca5, .ref ca6, .ref ca7, .ref ca8, .ref ca9, .ref ca10, .ref ca11, .ref ca12, .ref ca13, .ref ca14])), (ca14, .inl (G.2.2.1, 60, .inr (.inl (fun k => lN (xFs k)))))] := by rw [e7_0]; exact hD
  refine sx_loop (nL := 5) (fun i => [(ca7, .inl (G.2.1, 60, .inl (fun k => nI ((poisN (offN xFs ei caN ||| 2 ^ ei) ei xSt (ei + i)) k)))), (caq, .inr (1, [.int (nI caN), .int (nI caW), .ref ca2, .ref ca3, .ref ca4, .ref ca5, .ref ca6, .ref ca7, .ref ca8, .ref ca9, .ref ca10, .ref ca11, .ref ca12, .ref ca13, .ref ca14])), (ca14, .inl (G.2.2.1, 60, .inr (.inl (fun k => lN (xFs k)))))]) (fun i => [(4, .int (nI (ei + i))), (2, .long (lN ((offN xFs ei caN) ||| (2 ^ ei)))), (0, .ref caq), (1, .int (nI ei))]) (fun i => True) (caN - ei) trivial hP hD hS (lv_sub hl [0, 1, 2, 3] rfl) (fun i_4 hi_i_4 hI_i_4 H locs ls hP hD hS hl ih_i_4 => ?_)
  have hP : va_P (sx_D G) vwCl [(ca7, .inl (G.2.1, 60, .inl (fun k => nI ((poisN (offN xFs ei caN ||| 2 ^ ei) ei xSt (ei + i_4)) k)))), (caq, .inr (1, [.int (nI caN), .int (nI caW), .ref ca2, .ref ca3, .ref ca4, .ref ca5, .ref ca6, .ref ca7, .ref ca8, .ref ca9, .ref ca10, .ref ca11, .ref ca12, .ref ca13, .ref ca14])), (ca14, .inl (G.2.2.1, 60, .inr (.inl (fun k => lN (xFs k)))))] H := hP
  have hD : va_D A [(ca7, .inl (G.2.1, 60, .inl (fun k => nI ((poisN (offN xFs ei caN ||| 2 ^ ei) ei xSt (ei + i_4)) k)))), (caq, .inr (1, [.int (nI caN), .int (nI caW), .ref ca2, .ref ca3, .ref ca4, .ref ca5, .ref ca6, .ref ca7, .ref ca8, .ref ca9, .ref ca10, .ref ca11, .ref ca12, .ref ca13, .ref ca14])), (ca14, .inl (G.2.2.1, 60, .inr (.inl (fun k => lN (xFs k)))))] := hD
  have hl : lv_has ls 5 [(4, .int (nI (ei + i_4))), (2, .long (lN ((offN xFs ei caN) ||| (2 ^ ei)))), (0, .ref caq), (1, .int (nI ei))] := hl
  have hI_i_4 : True := hI_i_4
  refine lv_iload hx hb dX1_poison_13 (lv_at hl 0 rfl) ?_
  refine lv_aload_n hx hb dX1_poison_15 rfl (lv_at hl 2 rfl) ?_
  refine va_get (D := sx_D G) (ci := 1) (v := .int (nI caN)) (C := RX1) (T := TX1) (N := 15) hx hb hts inX1 hown hK hP 1 rfl rfl 0 (by decide) (hts _ q163) (fun _ h9 => h9) rfl dX1_poison_16 ?_
  refine lv_icmp_ge (tgt := 45) hx hb dX1_poison_19 (by decide) (fun c_5 => ?_) (fun c_5 => ?_)
  · have c_5 : caN ≤ (ei + i_4) := by have h9 : ((caN : Nat) : Int) ≤ ((ei + i_4 : Nat) : Int) := (sJ_le (a := ((caN : Nat) : Int)) (b := ((ei + i_4 : Nat) : Int)) (by omega) (by omega) (by omega) (by omega)).mp c_5; omega
    have hP := hP.sub (ws' := [(caq, .inr (1, [.int (nI caN), .int (nI caW), .ref ca2, .ref ca3, .ref ca4, .ref ca5, .ref ca6, .ref ca7, .ref ca8, .ref ca9, .ref ca10, .ref ca11, .ref ca12, .ref ca13, .ref ca14])), (ca14, .inl (G.2.2.1, 60, .inr (.inl (fun k => lN (xFs k))))), (ca7, .inl (G.2.1, 60, .inl (fun k => nI ((poisN (offN xFs ei caN ||| 2 ^ ei) ei xSt (ei + i_4)) k))))]) [1, 2, 0] rfl
    have hD := hD.sub (ws' := [(caq, .inr (1, [.int (nI caN), .int (nI caW), .ref ca2, .ref ca3, .ref ca4, .ref ca5, .ref ca6, .ref ca7, .ref ca8, .ref ca9, .ref ca10, .ref ca11, .ref ca12, .ref ca13, .ref ca14])), (ca14, .inl (G.2.2.1, 60, .inr (.inl (fun k => lN (xFs k))))), (ca7, .inl (G.2.1, 60, .inl (fun k => nI ((poisN (offN xFs ei caN ||| 2 ^ ei) ei xSt (ei + i_4)) k))))]) [1, 2, 0] (by decide) rfl
    have e8_0 : poisN (offN xFs ei caN ||| 2 ^ ei) ei xSt caN = poisN (offN xFs ei caN ||| 2 ^ ei) ei xSt (ei + i_4) := (by rw [show ei + i_4 = caN by omega])
    have hP : va_P (sx_D G) vwCl [(caq, .inr (1, [.int (nI caN), .int (nI caW), .ref ca2, .ref ca3, .ref ca4, .ref ca5, .ref ca6, .ref ca7, .ref ca8, .ref ca9, .ref ca10, .ref ca11, .ref ca12, .ref ca13, .ref ca14])), (ca14, .inl (G.2.2.1, 60, .inr (.inl (fun k => lN (xFs k))))), (ca7, .inl (G.2.1, 60, .inl (fun k => nI ((poisN (offN xFs ei caN ||| 2 ^ ei) ei xSt caN) k))))] H := by rw [e8_0]; exact hP
    have hD : va_D A [(caq, .inr (1, [.int (nI caN), .int (nI caW), .ref ca2, .ref ca3, .ref ca4, .ref ca5, .ref ca6, .ref ca7, .ref ca8, .ref ca9, .ref ca10, .ref ca11, .ref ca12, .ref ca13, .ref ca14])), (ca14, .inl (G.2.2.1, 60, .inr (.inl (fun k => lN (xFs k))))), (ca7, .inl (G.2.1, 60, .inl (fun k => nI ((poisN (offN xFs ei caN ||| 2 ^ ei) ei xSt caN) k))))] := by rw [e8_0]; exact hD
    exact (sx_vret () hx hb hr hlk hP hD hS trivial dX1_poison_45 rfl rfl)
  · have c_5 : ¬ (caN ≤ (ei + i_4)) := by have h9 : ¬ (((caN : Nat) : Int) ≤ ((ei + i_4 : Nat) : Int)) := fun h => c_5 ((sJ_le (a := ((caN : Nat) : Int)) (b := ((ei + i_4 : Nat) : Int)) (by omega) (by omega) (by omega) (by omega)).mpr h); omega
    refine lv_lload_n hx hb dX1_poison_22 rfl (lv_at hl 1 rfl) ?_
    refine lv_iload hx hb dX1_poison_23 (lv_at hl 0 rfl) ?_
    have hcut : sx_cut [(ca7, .inl (G.2.1, 60, .inl (fun k => nI ((poisN (offN xFs ei caN ||| 2 ^ ei) ei xSt (ei + i_4)) k)))), (caq, .inr (1, [.int (nI caN), .int (nI caW), .ref ca2, .ref ca3, .ref ca4, .ref ca5, .ref ca6, .ref ca7, .ref ca8, .ref ca9, .ref ca10, .ref ca11, .ref ca12, .ref ca13, .ref ca14])), (ca14, .inl (G.2.2.1, 60, .inr (.inl (fun k => lN (xFs k)))))] [] [(ca7, .inl (G.2.1, 60, .inl (fun k => nI ((poisN (offN xFs ei caN ||| 2 ^ ei) ei xSt (ei + i_4)) k)))), (caq, .inr (1, [.int (nI caN), .int (nI caW), .ref ca2, .ref ca3, .ref ca4, .ref ca5, .ref ca6, .ref ca7, .ref ca8, .ref ca9, .ref ca10, .ref ca11, .ref ca12, .ref ca13, .ref ca14])), (ca14, .inl (G.2.2.1, 60, .inr (.inl (fun k => lN (xFs k)))))] [] [0, 1, 2] := ⟨rfl, rfl, by decide, by decide, by decide⟩
    refine sx_ki (sx_runSN (As := [.long (lN ((offN xFs ei caN) ||| (2 ^ ei))), .int (nI (ei + i_4))]) (rest := []) F (m_X7_has l G H.size ((offN xFs ei caN) ||| (2 ^ ei)) (ei + i_4) (show ((offN xFs ei caN) ||| (2 ^ ei)) < 2 ^ 62 from (by first | assumption | omega)) (show (ei + i_4) < 63 from (by first | assumption | omega))) mi_X7_has q498 q504 ⟨⟨Nat.le_of_ble_eq_true rfl, Nat.le_of_ble_eq_true rfl⟩, Nat.le_of_ble_eq_true rfl, Nat.le_of_ble_eq_true rfl⟩ hcut hP hD hS rfl hl.1 rfl (Nat.le_of_ble_eq_true rfl) dX1_poison_25) hcut hP hD hS hA (fun r_8 u_6 H locs w_7 hP hD hS => ?_)
    have hP : va_P (sx_D G) vwCl [(ca7, .inl (G.2.1, 60, .inl (fun k => nI ((poisN (offN xFs ei caN ||| 2 ^ ei) ei xSt (ei + i_4)) k)))), (caq, .inr (1, [.int (nI caN), .int (nI caW), .ref ca2, .ref ca3, .ref ca4, .ref ca5, .ref ca6, .ref ca7, .ref ca8, .ref ca9, .ref ca10, .ref ca11, .ref ca12, .ref ca13, .ref ca14])), (ca14, .inl (G.2.2.1, 60, .inr (.inl (fun k => lN (xFs k)))))] H := hP
    have hD : va_D A [(ca7, .inl (G.2.1, 60, .inl (fun k => nI ((poisN (offN xFs ei caN ||| 2 ^ ei) ei xSt (ei + i_4)) k)))), (caq, .inr (1, [.int (nI caN), .int (nI caW), .ref ca2, .ref ca3, .ref ca4, .ref ca5, .ref ca6, .ref ca7, .ref ca8, .ref ca9, .ref ca10, .ref ca11, .ref ca12, .ref ca13, .ref ca14])), (ca14, .inl (G.2.2.1, 60, .inr (.inl (fun k => lN (xFs k)))))] := hD
    have w_7 : r_8 = sB (((offN xFs ei caN) ||| (2 ^ ei)).testBit (ei + i_4)) := w_7
    subst w_7
    refine lv_if_eq (tgt := 39) hx hb dX1_poison_28 (by decide) (fun c_9 => ?_) (fun c_9 => ?_)
    · have c_9 := sB_0 c_9
      refine lv_iinc (v := nI ((ei + i_4) + 1)) (lv' := [(4, .int (nI ((ei + i_4) + 1))), (2, .long (lN ((offN xFs ei caN) ||| (2 ^ ei)))), (0, .ref caq), (1, .int (nI ei))]) hx hb dX1_poison_39 hl (k := 0) rfl ((congrArg (fun t => nI (ei + i_4) + t) (show Int32.ofInt 1 = nI 1 by decide +kernel)).trans (nI_add (ei + i_4) 1)) (by decide) rfl (fun ls hl => ?_)
      refine lv_goto (tgt := 13) hx hb dX1_poison_42 (by decide) ?_
      have e9_0 : poisN (offN xFs ei caN ||| 2 ^ ei) ei xSt (ei + (i_4 + 1)) = (poisN (offN xFs ei caN ||| 2 ^ ei) ei xSt (ei + i_4)) := (poisN_f c_9)
      have hl : lv_has ls 5 [(4, .int (nI (ei + (i_4 + 1)))), (2, .long (lN ((offN xFs ei caN) ||| (2 ^ ei)))), (0, .ref caq), (1, .int (nI ei))] := by exact lv_sub hl [0, 1, 2, 3] rfl
      have hP : va_P (sx_D G) vwCl [(ca7, .inl (G.2.1, 60, .inl (fun k => nI ((poisN (offN xFs ei caN ||| 2 ^ ei) ei xSt (ei + (i_4 + 1))) k)))), (caq, .inr (1, [.int (nI caN), .int (nI caW), .ref ca2, .ref ca3, .ref ca4, .ref ca5, .ref ca6, .ref ca7, .ref ca8, .ref ca9, .ref ca10, .ref ca11, .ref ca12, .ref ca13, .ref ca14])), (ca14, .inl (G.2.2.1, 60, .inr (.inl (fun k => lN (xFs k)))))] H := by rw [e9_0]; exact hP
      have hD : va_D A [(ca7, .inl (G.2.1, 60, .inl (fun k => nI ((poisN (offN xFs ei caN ||| 2 ^ ei) ei xSt (ei + (i_4 + 1))) k)))), (caq, .inr (1, [.int (nI caN), .int (nI caW), .ref ca2, .ref ca3, .ref ca4, .ref ca5, .ref ca6, .ref ca7, .ref ca8, .ref ca9, .ref ca10, .ref ca11, .ref ca12, .ref ca13, .ref ca14])), (ca14, .inl (G.2.2.1, 60, .inr (.inl (fun k => lN (xFs k)))))] := by rw [e9_0]; exact hD
      exact ih_i_4 _ _ _ (by omega) trivial hP hD hS hl
    · have c_9 := sB_1 c_9
      refine lv_aload_n hx hb dX1_poison_31 rfl (lv_at hl 2 rfl) ?_
      refine va_get (D := sx_D G) (ci := 1) (v := .ref ca7) (C := RX1) (T := TX1) (N := 15) hx hb hts inX1 hown hK hP 1 rfl rfl 7 (by decide) (hts _ q185) (fun _ h9 => h9) rfl dX1_poison_32 ?_
      refine lv_iload hx hb dX1_poison_35 (lv_at hl 0 rfl) ?_
      refine lv_iconst (v := 2) hx hb dX1_poison_37 (by decide) ?_
      refine sx_istN (X := (ei + i_4)) (v := 2) (f := (poisN (offN xFs ei caN ||| 2 ^ ei) ei xSt (ei + i_4))) hx hb hK hP hD hS 0 rfl (by omega) rfl dX1_poison_38 (fun H locs hP hD hS => ?_)
      have hP : va_P (sx_D G) vwCl [(ca7, .inl (G.2.1, 60, .inl (fun k => nI ((sU (poisN (offN xFs ei caN ||| 2 ^ ei) ei xSt (ei + i_4)) (ei + i_4) 2) k)))), (caq, .inr (1, [.int (nI caN), .int (nI caW), .ref ca2, .ref ca3, .ref ca4, .ref ca5, .ref ca6, .ref ca7, .ref ca8, .ref ca9, .ref ca10, .ref ca11, .ref ca12, .ref ca13, .ref ca14])), (ca14, .inl (G.2.2.1, 60, .inr (.inl (fun k => lN (xFs k)))))] H := hP
      have hD : va_D A [(ca7, .inl (G.2.1, 60, .inl (fun k => nI ((sU (poisN (offN xFs ei caN ||| 2 ^ ei) ei xSt (ei + i_4)) (ei + i_4) 2) k)))), (caq, .inr (1, [.int (nI caN), .int (nI caW), .ref ca2, .ref ca3, .ref ca4, .ref ca5, .ref ca6, .ref ca7, .ref ca8, .ref ca9, .ref ca10, .ref ca11, .ref ca12, .ref ca13, .ref ca14])), (ca14, .inl (G.2.2.1, 60, .inr (.inl (fun k => lN (xFs k)))))] := hD
      refine lv_iinc (v := nI ((ei + i_4) + 1)) (lv' := [(4, .int (nI ((ei + i_4) + 1))), (2, .long (lN ((offN xFs ei caN) ||| (2 ^ ei)))), (0, .ref caq), (1, .int (nI ei))]) hx hb dX1_poison_39 hl (k := 0) rfl ((congrArg (fun t => nI (ei + i_4) + t) (show Int32.ofInt 1 = nI 1 by decide +kernel)).trans (nI_add (ei + i_4) 1)) (by decide) rfl (fun ls hl => ?_)
      refine lv_goto (tgt := 13) hx hb dX1_poison_42 (by decide) ?_
      have e9_0 : poisN (offN xFs ei caN ||| 2 ^ ei) ei xSt (ei + (i_4 + 1)) = (sU (poisN (offN xFs ei caN ||| 2 ^ ei) ei xSt (ei + i_4)) (ei + i_4) 2) := (poisN_t c_9)
      have hl : lv_has ls 5 [(4, .int (nI (ei + (i_4 + 1)))), (2, .long (lN ((offN xFs ei caN) ||| (2 ^ ei)))), (0, .ref caq), (1, .int (nI ei))] := by exact lv_sub hl [0, 1, 2, 3] rfl
      have hP : va_P (sx_D G) vwCl [(ca7, .inl (G.2.1, 60, .inl (fun k => nI ((poisN (offN xFs ei caN ||| 2 ^ ei) ei xSt (ei + (i_4 + 1))) k)))), (caq, .inr (1, [.int (nI caN), .int (nI caW), .ref ca2, .ref ca3, .ref ca4, .ref ca5, .ref ca6, .ref ca7, .ref ca8, .ref ca9, .ref ca10, .ref ca11, .ref ca12, .ref ca13, .ref ca14])), (ca14, .inl (G.2.2.1, 60, .inr (.inl (fun k => lN (xFs k)))))] H := by rw [e9_0]; exact hP
      have hD : va_D A [(ca7, .inl (G.2.1, 60, .inl (fun k => nI ((poisN (offN xFs ei caN ||| 2 ^ ei) ei xSt (ei + (i_4 + 1))) k)))), (caq, .inr (1, [.int (nI caN), .int (nI caW), .ref ca2, .ref ca3, .ref ca4, .ref ca5, .ref ca6, .ref ca7, .ref ca8, .ref ca9, .ref ca10, .ref ca11, .ref ca12, .ref ca13, .ref ca14])), (ca14, .inl (G.2.2.1, 60, .inr (.inl (fun k => lN (xFs k)))))] := by rw [e9_0]; exact hD
      exact ih_i_4 _ _ _ (by omega) trivial hP hD hS hl
set_option maxHeartbeats 4000000 in
set_option maxRecDepth 100000 in
theorem m_X1_dropAllOf (l : Launch) (G : sx_G) (sz : Nat) (caq : Nat) (caN : Nat) (caW : Nat) (ca2 : Nat) (ca3 : Nat) (ca4 : Nat) (ca5 : Nat) (ca6 : Nat) (ca7 : Nat) (ca8 : Nat) (ca9 : Nat) (ca10 : Nat) (ca11 : Nat) (ca12 : Nat) (ca13 : Nat) (ca14 : Nat) (xAc : Nat → Nat) (xSt : Nat → Nat) (da : Nat) (h_n : caN ≤ 60) (h_st : ∀ k, xSt k ≤ 2) (h_ac : ∀ k, xAc k < 14) (h_a : da < 14) : sx_Met l yX1_dropAllOf cX1_dropAllOf 3 none 0 0 0 0 G [.ref caq, .int (nI da)] [(caq, .inr (1, [.int (nI caN), .int (nI caW), .ref ca2, .ref ca3, .ref ca4, .ref ca5, .ref ca6, .ref ca7, .ref ca8, .ref ca9, .ref ca10, .ref ca11, .ref ca12, .ref ca13, .ref ca14])), (ca2, .inl (G.2.1, 60, .inl (fun k => nI (xAc k)))), (ca7, .inl (G.2.1, 60, .inl (fun k => nI (xSt k))))] sz (sx_Qv G (fun (u : Unit) => True) (fun (u : Unit) => [(caq, .inr (1, [.int (nI caN), .int (nI caW), .ref ca2, .ref ca3, .ref ca4, .ref ca5, .ref ca6, .ref ca7, .ref ca8, .ref ca9, .ref ca10, .ref ca11, .ref ca12, .ref ca13, .ref ca14])), (ca2, .inl (G.2.1, 60, .inl (fun k => nI (xAc k)))), (ca7, .inl (G.2.1, 60, .inl (fun k => nI (dropN xAc da xSt caN k))))])) := by
  refine sx_start (by decide) rfl (fun p e s m below meth c A ls F hr hlk hnm hP hD hS hl => ?_)
  obtain ⟨hx, hb, hml, hown, hts, hK, hE, hA⟩ := id F
  have hown : s.vm.findClass RX1 = some m.cls := hown
  generalize hHe : s.heap = H at hP
  have hS : va_S A s.heap H [] := by rw [← hHe]; exact va_S.rf
  have hl : lv_has ls 3 [(0, .ref caq), (1, .int (nI da))] := hl
  refine lv_iconst (v := 0) hx hb dX1_dropAllOf_0 (by decide) ?_
  refine lv_istore_n (lv' := [(2, .int 0), (0, .ref caq), (1, .int (nI da))]) hx hb dX1_dropAllOf_1 rfl hl (by decide) rfl (fun ls hl => ?_)
  have e7_0 : dropN xAc da xSt 0 = xSt := (dropN_0 _ _ _)
  have hP : va_P (sx_D G) vwCl [(caq, .inr (1, [.int (nI caN), .int (nI caW), .ref ca2, .ref ca3, .ref ca4, .ref ca5, .ref ca6, .ref ca7, .ref ca8, .ref ca9, .ref ca10, .ref ca11, .ref ca12, .ref ca13, .ref ca14])), (ca2, .inl (G.2.1, 60, .inl (fun k => nI (xAc k)))), (ca7, .inl (G.2.1, 60, .inl (fun k => nI (dropN xAc da xSt 0 k))))] H := by rw [e7_0]; exact hP
  have hD : va_D A [(caq, .inr (1, [.int (nI caN), .int (nI caW), .ref ca2, .ref ca3, .ref ca4, .ref ca5, .ref ca6, .ref ca7, .ref ca8, .ref ca9, .ref ca10, .ref ca11, .ref ca12, .ref ca13, .ref ca14])), (ca2, .inl (G.2.1, 60, .inl (fun k => nI (xAc k)))), (ca7, .inl (G.2.1, 60, .inl (fun k => nI (dropN xAc da xSt 0 k))))] := by rw [e7_0]; exact hD
  refine sx_loop (nL := 3) (fun i => [(caq, .inr (1, [.int (nI caN), .int (nI caW), .ref ca2, .ref ca3, .ref ca4, .ref ca5, .ref ca6, .ref ca7, .ref ca8, .ref ca9, .ref ca10, .ref ca11, .ref ca12, .ref ca13, .ref ca14])), (ca2, .inl (G.2.1, 60, .inl (fun k => nI (xAc k)))), (ca7, .inl (G.2.1, 60, .inl (fun k => nI (dropN xAc da xSt i k))))]) (fun i => [(2, .int (nI i)), (0, .ref caq), (1, .int (nI da))]) (fun i => True) caN trivial hP hD hS (lv_sub hl [0, 1, 2] rfl) (fun i_1 hi_i_1 hI_i_1 H locs ls hP hD hS hl ih_i_1 => ?_)
  have hP : va_P (sx_D G) vwCl [(caq, .inr (1, [.int (nI caN), .int (nI caW), .ref ca2, .ref ca3, .ref ca4, .ref ca5, .ref ca6, .ref ca7, .ref ca8, .ref ca9, .ref ca10, .ref ca11, .ref ca12, .ref ca13, .ref ca14])), (ca2, .inl (G.2.1, 60, .inl (fun k => nI (xAc k)))), (ca7, .inl (G.2.1, 60, .inl (fun k => nI (dropN xAc da xSt i_1 k))))] H := hP
  have hD : va_D A [(caq, .inr (1, [.int (nI caN), .int (nI caW), .ref ca2, .ref ca3, .ref ca4, .ref ca5, .ref ca6, .ref ca7, .ref ca8, .ref ca9, .ref ca10, .ref ca11, .ref ca12, .ref ca13, .ref ca14])), (ca2, .inl (G.2.1, 60, .inl (fun k => nI (xAc k)))), (ca7, .inl (G.2.1, 60, .inl (fun k => nI (dropN xAc da xSt i_1 k))))] := hD
  have hl : lv_has ls 3 [(2, .int (nI i_1)), (0, .ref caq), (1, .int (nI da))] := hl
  have hI_i_1 : True := hI_i_1
  refine lv_iload_n hx hb dX1_dropAllOf_2 rfl (lv_at hl 0 rfl) ?_
  refine lv_aload_n hx hb dX1_dropAllOf_3 rfl (lv_at hl 1 rfl) ?_
  refine va_get (D := sx_D G) (ci := 1) (v := .int (nI caN)) (C := RX1) (T := TX1) (N := 15) hx hb hts inX1 hown hK hP 0 rfl rfl 0 (by decide) (hts _ q163) (fun _ h9 => h9) rfl dX1_dropAllOf_4 ?_
  refine lv_icmp_ge (tgt := 42) hx hb dX1_dropAllOf_7 (by decide) (fun c_2 => ?_) (fun c_2 => ?_)
  · have c_2 : caN ≤ i_1 := by have h9 : ((caN : Nat) : Int) ≤ ((i_1 : Nat) : Int) := (sJ_le (a := ((caN : Nat) : Int)) (b := ((i_1 : Nat) : Int)) (by omega) (by omega) (by omega) (by omega)).mp c_2; omega
    have e8_0 : dropN xAc da xSt caN = dropN xAc da xSt i_1 := (by rw [show i_1 = caN by omega])
    have hP : va_P (sx_D G) vwCl [(caq, .inr (1, [.int (nI caN), .int (nI caW), .ref ca2, .ref ca3, .ref ca4, .ref ca5, .ref ca6, .ref ca7, .ref ca8, .ref ca9, .ref ca10, .ref ca11, .ref ca12, .ref ca13, .ref ca14])), (ca2, .inl (G.2.1, 60, .inl (fun k => nI (xAc k)))), (ca7, .inl (G.2.1, 60, .inl (fun k => nI (dropN xAc da xSt caN k))))] H := by rw [e8_0]; exact hP
    have hD : va_D A [(caq, .inr (1, [.int (nI caN), .int (nI caW), .ref ca2, .ref ca3, .ref ca4, .ref ca5, .ref ca6, .ref ca7, .ref ca8, .ref ca9, .ref ca10, .ref ca11, .ref ca12, .ref ca13, .ref ca14])), (ca2, .inl (G.2.1, 60, .inl (fun k => nI (xAc k)))), (ca7, .inl (G.2.1, 60, .inl (fun k => nI (dropN xAc da xSt caN k))))] := by rw [e8_0]; exact hD
    exact (sx_vret () hx hb hr hlk hP hD hS trivial dX1_dropAllOf_42 rfl rfl)
  · have c_2 : ¬ (caN ≤ i_1) := by have h9 : ¬ (((caN : Nat) : Int) ≤ ((i_1 : Nat) : Int)) := fun h => c_2 ((sJ_le (a := ((caN : Nat) : Int)) (b := ((i_1 : Nat) : Int)) (by omega) (by omega) (by omega) (by omega)).mpr h); omega
    refine lv_aload_n hx hb dX1_dropAllOf_10 rfl (lv_at hl 1 rfl) ?_
    refine va_get (D := sx_D G) (ci := 1) (v := .ref ca2) (C := RX1) (T := TX1) (N := 15) hx hb hts inX1 hown hK hP 0 rfl rfl 2 (by decide) (hts _ q169) (fun _ h9 => h9) rfl dX1_dropAllOf_11 ?_
    refine lv_iload_n hx hb dX1_dropAllOf_14 rfl (lv_at hl 0 rfl) ?_
    refine sx_ild (X := i_1) hx hb hK hP 1 rfl (by omega) rfl dX1_dropAllOf_15 ?_
    have b_3 := h_ac i_1
    refine lv_iload_n hx hb dX1_dropAllOf_16 rfl (lv_at hl 2 rfl) ?_
    refine lv_icmp_ne (tgt := 36) hx hb dX1_dropAllOf_17 (by decide) (fun c_4 => ?_) (fun c_4 => ?_)
    · have c_4 : ¬ ((xAc i_1) = da) := by have h9 : ¬ (((xAc i_1 : Nat) : Int) = ((da : Nat) : Int)) := fun h => c_4 ((sJ_eq (a := ((xAc i_1 : Nat) : Int)) (b := ((da : Nat) : Int)) (by omega) (by omega) (by omega) (by omega)).mpr h); omega
      refine lv_iinc (v := nI (i_1 + 1)) (lv' := [(2, .int (nI (i_1 + 1))), (0, .ref caq), (1, .int (nI da))]) hx hb dX1_dropAllOf_36 hl (k := 0) rfl ((congrArg (fun t => nI i_1 + t) (show Int32.ofInt 1 = nI 1 by decide +kernel)).trans (nI_add i_1 1)) (by decide) rfl (fun ls hl => ?_)
      refine lv_goto (tgt := 2) hx hb dX1_dropAllOf_39 (by decide) ?_
      have e9_0 : dropN xAc da xSt (i_1 + 1) = (dropN xAc da xSt i_1) := (dropN_f (fun h => c_4 h.1))
      have hl : lv_has ls 3 [(2, .int (nI (i_1 + 1))), (0, .ref caq), (1, .int (nI da))] := by exact lv_sub hl [0, 1, 2] rfl
      have hP : va_P (sx_D G) vwCl [(caq, .inr (1, [.int (nI caN), .int (nI caW), .ref ca2, .ref ca3, .ref ca4, .ref ca5, .ref ca6, .ref ca7, .ref ca8, .ref ca9, .ref ca10, .ref ca11, .ref ca12, .ref ca13, .ref ca14])), (ca2, .inl (G.2.1, 60, .inl (fun k => nI (xAc k)))), (ca7, .inl (G.2.1, 60, .inl (fun k => nI ((dropN xAc da xSt (i_1 + 1)) k))))] H := by rw [e9_0]; exact hP
      have hD : va_D A [(caq, .inr (1, [.int (nI caN), .int (nI caW), .ref ca2, .ref ca3, .ref ca4, .ref ca5, .ref ca6, .ref ca7, .ref ca8, .ref ca9, .ref ca10, .ref ca11, .ref ca12, .ref ca13, .ref ca14])), (ca2, .inl (G.2.1, 60, .inl (fun k => nI (xAc k)))), (ca7, .inl (G.2.1, 60, .inl (fun k => nI ((dropN xAc da xSt (i_1 + 1)) k))))] := by rw [e9_0]; exact hD
      exact ih_i_1 _ _ _ (by omega) trivial hP hD hS hl
    · have c_4 : (xAc i_1) = da := by have h9 : ((xAc i_1 : Nat) : Int) = ((da : Nat) : Int) := (sJ_eq (a := ((xAc i_1 : Nat) : Int)) (b := ((da : Nat) : Int)) (by omega) (by omega) (by omega) (by omega)).mp c_4; omega
      refine lv_aload_n hx hb dX1_dropAllOf_20 rfl (lv_at hl 1 rfl) ?_
      refine va_get (D := sx_D G) (ci := 1) (v := .ref ca7) (C := RX1) (T := TX1) (N := 15) hx hb hts inX1 hown hK hP 0 rfl rfl 7 (by decide) (hts _ q185) (fun _ h9 => h9) rfl dX1_dropAllOf_21 ?_
      refine lv_iload_n hx hb dX1_dropAllOf_24 rfl (lv_at hl 0 rfl) ?_
      refine sx_ild (X := i_1) hx hb hK hP 2 rfl (by omega) rfl dX1_dropAllOf_25 ?_
      have b_5 := dropN_b (ac := xAc) (a := da) (n := i_1) h_st i_1
      refine lv_if_ne (tgt := 36) hx hb dX1_dropAllOf_26 (by decide) (fun c_6 => ?_) (fun c_6 => ?_)
      · have c_6 : ¬ ((dropN xAc da xSt i_1 i_1) = 0) := by have h9 : ¬ (((dropN xAc da xSt i_1 i_1 : Nat) : Int) = (0 : Int)) := fun h => c_6 ((sJ_eq (a := ((dropN xAc da xSt i_1 i_1 : Nat) : Int)) (b := (0 : Int)) (by omega) (by omega) (by omega) (by omega)).mpr h); omega
        refine lv_iinc (v := nI (i_1 + 1)) (lv' := [(2, .int (nI (i_1 + 1))), (0, .ref caq), (1, .int (nI da))]) hx hb dX1_dropAllOf_36 hl (k := 0) rfl ((congrArg (fun t => nI i_1 + t) (show Int32.ofInt 1 = nI 1 by decide +kernel)).trans (nI_add i_1 1)) (by decide) rfl (fun ls hl => ?_)
        refine lv_goto (tgt := 2) hx hb dX1_dropAllOf_39 (by decide) ?_
        have e9_0 : dropN xAc da xSt (i_1 + 1) = (dropN xAc da xSt i_1) := (dropN_f (fun h => c_6 (by rw [dropN_i]; exact h.2)))
        have hl : lv_has ls 3 [(2, .int (nI (i_1 + 1))), (0, .ref caq), (1, .int (nI da))] := by exact lv_sub hl [0, 1, 2] rfl
        have hP : va_P (sx_D G) vwCl [(caq, .inr (1, [.int (nI caN), .int (nI caW), .ref ca2, .ref ca3, .ref ca4, .ref ca5, .ref ca6, .ref ca7, .ref ca8, .ref ca9, .ref ca10, .ref ca11, .ref ca12, .ref ca13, .ref ca14])), (ca2, .inl (G.2.1, 60, .inl (fun k => nI (xAc k)))), (ca7, .inl (G.2.1, 60, .inl (fun k => nI ((dropN xAc da xSt (i_1 + 1)) k))))] H := by rw [e9_0]; exact hP
        have hD : va_D A [(caq, .inr (1, [.int (nI caN), .int (nI caW), .ref ca2, .ref ca3, .ref ca4, .ref ca5, .ref ca6, .ref ca7, .ref ca8, .ref ca9, .ref ca10, .ref ca11, .ref ca12, .ref ca13, .ref ca14])), (ca2, .inl (G.2.1, 60, .inl (fun k => nI (xAc k)))), (ca7, .inl (G.2.1, 60, .inl (fun k => nI ((dropN xAc da xSt (i_1 + 1)) k))))] := by rw [e9_0]; exact hD
        exact ih_i_1 _ _ _ (by omega) trivial hP hD hS hl
      · have c_6 : (dropN xAc da xSt i_1 i_1) = 0 := by have h9 : ((dropN xAc da xSt i_1 i_1 : Nat) : Int) = (0 : Int) := (sJ_eq (a := ((dropN xAc da xSt i_1 i_1 : Nat) : Int)) (b := (0 : Int)) (by omega) (by omega) (by omega) (by omega)).mp c_6; omega
        refine lv_aload_n hx hb dX1_dropAllOf_29 rfl (lv_at hl 1 rfl) ?_
        refine va_get (D := sx_D G) (ci := 1) (v := .ref ca7) (C := RX1) (T := TX1) (N := 15) hx hb hts inX1 hown hK hP 0 rfl rfl 7 (by decide) (hts _ q185) (fun _ h9 => h9) rfl dX1_dropAllOf_30 ?_
        refine lv_iload_n hx hb dX1_dropAllOf_33 rfl (lv_at hl 0 rfl) ?_
        refine lv_iconst (v := 1) hx hb dX1_dropAllOf_34 (by decide) ?_
        refine sx_istN (X := i_1) (v := 1) (f := (dropN xAc da xSt i_1)) hx hb hK hP hD hS 2 rfl (by omega) rfl dX1_dropAllOf_35 (fun H locs hP hD hS => ?_)
        have hP : va_P (sx_D G) vwCl [(caq, .inr (1, [.int (nI caN), .int (nI caW), .ref ca2, .ref ca3, .ref ca4, .ref ca5, .ref ca6, .ref ca7, .ref ca8, .ref ca9, .ref ca10, .ref ca11, .ref ca12, .ref ca13, .ref ca14])), (ca2, .inl (G.2.1, 60, .inl (fun k => nI (xAc k)))), (ca7, .inl (G.2.1, 60, .inl (fun k => nI ((sU (dropN xAc da xSt i_1) i_1 1) k))))] H := hP
        have hD : va_D A [(caq, .inr (1, [.int (nI caN), .int (nI caW), .ref ca2, .ref ca3, .ref ca4, .ref ca5, .ref ca6, .ref ca7, .ref ca8, .ref ca9, .ref ca10, .ref ca11, .ref ca12, .ref ca13, .ref ca14])), (ca2, .inl (G.2.1, 60, .inl (fun k => nI (xAc k)))), (ca7, .inl (G.2.1, 60, .inl (fun k => nI ((sU (dropN xAc da xSt i_1) i_1 1) k))))] := hD
        refine lv_iinc (v := nI (i_1 + 1)) (lv' := [(2, .int (nI (i_1 + 1))), (0, .ref caq), (1, .int (nI da))]) hx hb dX1_dropAllOf_36 hl (k := 0) rfl ((congrArg (fun t => nI i_1 + t) (show Int32.ofInt 1 = nI 1 by decide +kernel)).trans (nI_add i_1 1)) (by decide) rfl (fun ls hl => ?_)
        refine lv_goto (tgt := 2) hx hb dX1_dropAllOf_39 (by decide) ?_
        have e9_0 : dropN xAc da xSt (i_1 + 1) = (sU (dropN xAc da xSt i_1) i_1 1) := (dropN_t c_4 (by rw [← dropN_i xAc da xSt i_1]; exact c_6))
        have hl : lv_has ls 3 [(2, .int (nI (i_1 + 1))), (0, .ref caq), (1, .int (nI da))] := by exact lv_sub hl [0, 1, 2] rfl
        have hP : va_P (sx_D G) vwCl [(caq, .inr (1, [.int (nI caN), .int (nI caW), .ref ca2, .ref ca3, .ref ca4, .ref ca5, .ref ca6, .ref ca7, .ref ca8, .ref ca9, .ref ca10, .ref ca11, .ref ca12, .ref ca13, .ref ca14])), (ca2, .inl (G.2.1, 60, .inl (fun k => nI (xAc k)))), (ca7, .inl (G.2.1, 60, .inl (fun k => nI ((dropN xAc da xSt (i_1 + 1)) k))))] H := by rw [e9_0]; exact hP
        have hD : va_D A [(caq, .inr (1, [.int (nI caN), .int (nI caW), .ref ca2, .ref ca3, .ref ca4, .ref ca5, .ref ca6, .ref ca7, .ref ca8, .ref ca9, .ref ca10, .ref ca11, .ref ca12, .ref ca13, .ref ca14])), (ca2, .inl (G.2.1, 60, .inl (fun k => nI (xAc k)))), (ca7, .inl (G.2.1, 60, .inl (fun k => nI ((dropN xAc da xSt (i_1 + 1)) k))))] := by rw [e9_0]; exact hD
        exact ih_i_1 _ _ _ (by omega) trivial hP hD hS hl
set_option maxHeartbeats 4000000 in
set_option maxRecDepth 100000 in
theorem m_X1_leastWorth (l : Launch) (G : sx_G) (sz : Nat) (caq : Nat) (caN : Nat) (caW : Nat) (ca2 : Nat) (ca3 : Nat) (ca4 : Nat) (ca5 : Nat) (ca6 : Nat) (ca7 : Nat) (ca8 : Nat) (ca9 : Nat) (ca10 : Nat) (ca11 : Nat) (ca12 : Nat) (ca13 : Nat) (ca14 : Nat) (xTm : Nat → Nat) (xSt : Nat → Nat) (xSz : Nat → Nat) (xCo : Nat → Nat) (xHi : Nat → Nat) (ow : Nat) (h_n : caN ≤ 60) (h_tm : ∀ k, xTm k < 4) (h_st : ∀ k, xSt k ≤ 2) (h_sz : ∀ k, xSz k ≤ 20) (h_co : ∀ k, xCo k ≤ 50) (h_hi : ∀ k, xHi k ≤ 100000) (h_o : ow < 4) : sx_Met l yX1_leastWorth cX1_leastWorth 4 (some .int) 1 22 0 0 G [.ref caq, .int (nI ow)] [(caq, .inr (1, [.int (nI caN), .int (nI caW), .ref ca2, .ref ca3, .ref ca4, .ref ca5, .ref ca6, .ref ca7, .ref ca8, .ref ca9, .ref ca10, .ref ca11, .ref ca12, .ref ca13, .ref ca14])), (ca4, .inl (G.2.1, 60, .inl (fun k => nI (xTm k)))), (ca7, .inl (G.2.1, 60, .inl (fun k => nI (xSt k)))), (ca9, .inl (G.2.1, 60, .inl (fun k => nI (xSz k)))), (ca8, .inl (G.2.1, 60, .inl (fun k => nI (xCo k)))), (ca6, .inl (G.2.1, 60, .inl (fun k => nI (xHi k))))] sz (sx_Qi G (fun (r : Int32) (u : Unit) => r = sJ (((leaN xTm xSt xSz xCo xHi ow caN : Nat) : Int) - 1)) (fun (u : Unit) => [(caq, .inr (1, [.int (nI caN), .int (nI caW), .ref ca2, .ref ca3, .ref ca4, .ref ca5, .ref ca6, .ref ca7, .ref ca8, .ref ca9, .ref ca10, .ref ca11, .ref ca12, .ref ca13, .ref ca14])), (ca4, .inl (G.2.1, 60, .inl (fun k => nI (xTm k)))), (ca7, .inl (G.2.1, 60, .inl (fun k => nI (xSt k)))), (ca9, .inl (G.2.1, 60, .inl (fun k => nI (xSz k)))), (ca8, .inl (G.2.1, 60, .inl (fun k => nI (xCo k)))), (ca6, .inl (G.2.1, 60, .inl (fun k => nI (xHi k))))])) := by
  refine sx_start (by decide) rfl (fun p e s m below meth c A ls F hr hlk hnm hP hD hS hl => ?_)
  obtain ⟨hx, hb, hml, hown, hts, hK, hE, hA⟩ := id F
  have hown : s.vm.findClass RX1 = some m.cls := hown
  generalize hHe : s.heap = H at hP
  have hS : va_S A s.heap H [] := by rw [← hHe]; exact va_S.rf
  have hl : lv_has ls 4 [(0, .ref caq), (1, .int (nI ow))] := hl
  refine lv_iconst (v := (-1)) hx hb dX1_leastWorth_0 (by decide) ?_
  refine sx_topI (show ((-1) : Int32) = sJ ((-1)) by decide +kernel) ?_
  refine lv_istore_n (lv' := [(2, .int (sJ (-1))), (0, .ref caq), (1, .int (nI ow))]) hx hb dX1_leastWorth_1 rfl hl (by decide) rfl (fun ls hl => ?_)
  refine lv_iconst (v := 0) hx hb dX1_leastWorth_2 (by decide) ?_
  refine lv_istore_n (lv' := [(3, .int 0), (2, .int (sJ (-1))), (0, .ref caq), (1, .int (nI ow))]) hx hb dX1_leastWorth_3 rfl hl (by decide) rfl (fun ls hl => ?_)
  have hl : lv_has ls 4 [(2, .int (sJ (((leaN xTm xSt xSz xCo xHi ow 0 : Nat) : Int) - 1))), (3, .int (nI 0)), (0, .ref caq), (1, .int (nI ow))] := by rw [show (((leaN xTm xSt xSz xCo xHi ow 0 : Nat) : Int) - 1) = -1 from rfl]; exact lv_sub hl [1, 0, 2, 3] rfl
  refine sx_loop (nL := 4) (fun i => [(caq, .inr (1, [.int (nI caN), .int (nI caW), .ref ca2, .ref ca3, .ref ca4, .ref ca5, .ref ca6, .ref ca7, .ref ca8, .ref ca9, .ref ca10, .ref ca11, .ref ca12, .ref ca13, .ref ca14])), (ca4, .inl (G.2.1, 60, .inl (fun k => nI (xTm k)))), (ca7, .inl (G.2.1, 60, .inl (fun k => nI (xSt k)))), (ca9, .inl (G.2.1, 60, .inl (fun k => nI (xSz k)))), (ca8, .inl (G.2.1, 60, .inl (fun k => nI (xCo k)))), (ca6, .inl (G.2.1, 60, .inl (fun k => nI (xHi k))))]) (fun i => [(2, .int (sJ (((leaN xTm xSt xSz xCo xHi ow i : Nat) : Int) - 1))), (3, .int (nI i)), (0, .ref caq), (1, .int (nI ow))]) (fun i => True) caN trivial hP hD hS hl (fun i_1 hi_i_1 hI_i_1 H locs ls hP hD hS hl ih_i_1 => ?_)
  have hP : va_P (sx_D G) vwCl [(caq, .inr (1, [.int (nI caN), .int (nI caW), .ref ca2, .ref ca3, .ref ca4, .ref ca5, .ref ca6, .ref ca7, .ref ca8, .ref ca9, .ref ca10, .ref ca11, .ref ca12, .ref ca13, .ref ca14])), (ca4, .inl (G.2.1, 60, .inl (fun k => nI (xTm k)))), (ca7, .inl (G.2.1, 60, .inl (fun k => nI (xSt k)))), (ca9, .inl (G.2.1, 60, .inl (fun k => nI (xSz k)))), (ca8, .inl (G.2.1, 60, .inl (fun k => nI (xCo k)))), (ca6, .inl (G.2.1, 60, .inl (fun k => nI (xHi k))))] H := hP
  have hD : va_D A [(caq, .inr (1, [.int (nI caN), .int (nI caW), .ref ca2, .ref ca3, .ref ca4, .ref ca5, .ref ca6, .ref ca7, .ref ca8, .ref ca9, .ref ca10, .ref ca11, .ref ca12, .ref ca13, .ref ca14])), (ca4, .inl (G.2.1, 60, .inl (fun k => nI (xTm k)))), (ca7, .inl (G.2.1, 60, .inl (fun k => nI (xSt k)))), (ca9, .inl (G.2.1, 60, .inl (fun k => nI (xSz k)))), (ca8, .inl (G.2.1, 60, .inl (fun k => nI (xCo k)))), (ca6, .inl (G.2.1, 60, .inl (fun k => nI (xHi k))))] := hD
  have hl : lv_has ls 4 [(2, .int (sJ (((leaN xTm xSt xSz xCo xHi ow i_1 : Nat) : Int) - 1))), (3, .int (nI i_1)), (0, .ref caq), (1, .int (nI ow))] := hl
  have hI_i_1 : True := hI_i_1
  have h_le := leaN_le xTm xSt xSz xCo xHi ow i_1
  have q7 := worN_lt (xSz i_1) (h_co i_1) (h_hi i_1)
  refine lv_iload_n hx hb dX1_leastWorth_4 rfl (lv_at hl 1 rfl) ?_
  refine lv_aload_n hx hb dX1_leastWorth_5 rfl (lv_at hl 2 rfl) ?_
  refine va_get (D := sx_D G) (ci := 1) (v := .int (nI caN)) (C := RX1) (T := TX1) (N := 15) hx hb hts inX1 hown hK hP 0 rfl rfl 0 (by decide) (hts _ q163) (fun _ h9 => h9) rfl dX1_leastWorth_6 ?_
  refine lv_icmp_ge (tgt := 47) hx hb dX1_leastWorth_9 (by decide) (fun c_2 => ?_) (fun c_2 => ?_)
  · have c_2 : caN ≤ i_1 := by have h9 : ((caN : Nat) : Int) ≤ ((i_1 : Nat) : Int) := (sJ_le (a := ((caN : Nat) : Int)) (b := ((i_1 : Nat) : Int)) (by omega) (by omega) (by omega) (by omega)).mp c_2; omega
    refine lv_iload_n hx hb dX1_leastWorth_47 rfl (lv_at hl 0 rfl) ?_
    exact (sx_iret (v := sJ (((leaN xTm xSt xSz xCo xHi ow i_1 : Nat) : Int) - 1)) () hx hb hr rfl hlk hP hD hS (congrArg (fun z => sJ (((leaN xTm xSt xSz xCo xHi ow z : Nat) : Int) - 1)) (by omega)) dX1_leastWorth_48 rfl rfl)
  · have c_2 : ¬ (caN ≤ i_1) := by have h9 : ¬ (((caN : Nat) : Int) ≤ ((i_1 : Nat) : Int)) := fun h => c_2 ((sJ_le (a := ((caN : Nat) : Int)) (b := ((i_1 : Nat) : Int)) (by omega) (by omega) (by omega) (by omega)).mpr h); omega
    refine lv_aload_n hx hb dX1_leastWorth_12 rfl (lv_at hl 2 rfl) ?_
    refine lv_iload_n hx hb dX1_leastWorth_13 rfl (lv_at hl 1 rfl) ?_
    refine lv_iload_n hx hb dX1_leastWorth_14 rfl (lv_at hl 3 rfl) ?_
    have hcut : sx_cut [(caq, .inr (1, [.int (nI caN), .int (nI caW), .ref ca2, .ref ca3, .ref ca4, .ref ca5, .ref ca6, .ref ca7, .ref ca8, .ref ca9, .ref ca10, .ref ca11, .ref ca12, .ref ca13, .ref ca14])), (ca4, .inl (G.2.1, 60, .inl (fun k => nI (xTm k)))), (ca7, .inl (G.2.1, 60, .inl (fun k => nI (xSt k)))), (ca9, .inl (G.2.1, 60, .inl (fun k => nI (xSz k)))), (ca8, .inl (G.2.1, 60, .inl (fun k => nI (xCo k)))), (ca6, .inl (G.2.1, 60, .inl (fun k => nI (xHi k))))] [(caq, .inr (1, [.int (nI caN), .int (nI caW), .ref ca2, .ref ca3, .ref ca4, .ref ca5, .ref ca6, .ref ca7, .ref ca8, .ref ca9, .ref ca10, .ref ca11, .ref ca12, .ref ca13, .ref ca14])), (ca4, .inl (G.2.1, 60, .inl (fun k => nI (xTm k)))), (ca7, .inl (G.2.1, 60, .inl (fun k => nI (xSt k))))] [(ca9, .inl (G.2.1, 60, .inl (fun k => nI (xSz k)))), (ca8, .inl (G.2.1, 60, .inl (fun k => nI (xCo k)))), (ca6, .inl (G.2.1, 60, .inl (fun k => nI (xHi k))))] [0, 1, 2] [3, 4, 5] := ⟨rfl, rfl, by decide, by decide, by decide⟩
    refine sx_ki (sx_runV (As := [.int (nI i_1), .int (nI ow)]) (rest := []) F (m_X1_isKeptBy l G H.size caq caN caW ca2 ca3 ca4 ca5 ca6 ca7 ca8 ca9 ca10 ca11 ca12 ca13 ca14 xTm xSt i_1 ow (show ∀ k, xTm k < 4 from (by first | assumption | omega)) (show ∀ k, xSt k ≤ 2 from (by first | assumption | omega)) (show i_1 < 60 from (by first | assumption | omega)) (show ow < 4 from (by first | assumption | omega))) mi_X1_isKeptBy q523 qs_X1_isKeptBy q521 ⟨⟨Nat.le_of_ble_eq_true rfl, Nat.le_of_ble_eq_true rfl⟩, Nat.le_of_ble_eq_true rfl, Nat.le_of_ble_eq_true rfl⟩ hcut hP hD hS 0 1 rfl rfl rfl hl.1 rfl (Nat.le_of_ble_eq_true rfl) dX1_leastWorth_15) hcut hP hD hS hA (fun r_5 u_3 H locs w_4 hP hD hS => ?_)
    have hP : va_P (sx_D G) vwCl [(ca9, .inl (G.2.1, 60, .inl (fun k => nI (xSz k)))), (ca8, .inl (G.2.1, 60, .inl (fun k => nI (xCo k)))), (ca6, .inl (G.2.1, 60, .inl (fun k => nI (xHi k)))), (caq, .inr (1, [.int (nI caN), .int (nI caW), .ref ca2, .ref ca3, .ref ca4, .ref ca5, .ref ca6, .ref ca7, .ref ca8, .ref ca9, .ref ca10, .ref ca11, .ref ca12, .ref ca13, .ref ca14])), (ca4, .inl (G.2.1, 60, .inl (fun k => nI (xTm k)))), (ca7, .inl (G.2.1, 60, .inl (fun k => nI (xSt k))))] H := hP
    have hD : va_D A [(ca9, .inl (G.2.1, 60, .inl (fun k => nI (xSz k)))), (ca8, .inl (G.2.1, 60, .inl (fun k => nI (xCo k)))), (ca6, .inl (G.2.1, 60, .inl (fun k => nI (xHi k)))), (caq, .inr (1, [.int (nI caN), .int (nI caW), .ref ca2, .ref ca3, .ref ca4, .ref ca5, .ref ca6, .ref ca7, .ref ca8, .ref ca9, .ref ca10, .ref ca11, .ref ca12, .ref ca13, .ref ca14])), (ca4, .inl (G.2.1, 60, .inl (fun k => nI (xTm k)))), (ca7, .inl (G.2.1, 60, .inl (fun k => nI (xSt k))))] := hD
    have w_4 : r_5 = sB (decide (xTm i_1 = ow ∧ xSt i_1 = 0)) := w_4
    subst w_4
    refine lv_if_eq (tgt := 41) hx hb dX1_leastWorth_18 (by decide) (fun c_6 => ?_) (fun c_6 => ?_)
    · have c_6 := of_decide_eq_false (sB_0 c_6)
      refine lv_iinc (v := nI (i_1 + 1)) (lv' := [(3, .int (nI (i_1 + 1))), (2, .int (sJ (((leaN xTm xSt xSz xCo xHi ow i_1 : Nat) : Int) - 1))), (0, .ref caq), (1, .int (nI ow))]) hx hb dX1_leastWorth_41 hl (k := 1) rfl ((congrArg (fun t => nI i_1 + t) (show Int32.ofInt 1 = nI 1 by decide +kernel)).trans (nI_add i_1 1)) (by decide) rfl (fun ls hl => ?_)
      refine lv_goto (tgt := 4) hx hb dX1_leastWorth_44 (by decide) ?_
      have hP := hP.sub (ws' := [(caq, .inr (1, [.int (nI caN), .int (nI caW), .ref ca2, .ref ca3, .ref ca4, .ref ca5, .ref ca6, .ref ca7, .ref ca8, .ref ca9, .ref ca10, .ref ca11, .ref ca12, .ref ca13, .ref ca14])), (ca4, .inl (G.2.1, 60, .inl (fun k => nI (xTm k)))), (ca7, .inl (G.2.1, 60, .inl (fun k => nI (xSt k)))), (ca9, .inl (G.2.1, 60, .inl (fun k => nI (xSz k)))), (ca8, .inl (G.2.1, 60, .inl (fun k => nI (xCo k)))), (ca6, .inl (G.2.1, 60, .inl (fun k => nI (xHi k))))]) [3, 4, 5, 0, 1, 2] rfl
      have hD := hD.sub (ws' := [(caq, .inr (1, [.int (nI caN), .int (nI caW), .ref ca2, .ref ca3, .ref ca4, .ref ca5, .ref ca6, .ref ca7, .ref ca8, .ref ca9, .ref ca10, .ref ca11, .ref ca12, .ref ca13, .ref ca14])), (ca4, .inl (G.2.1, 60, .inl (fun k => nI (xTm k)))), (ca7, .inl (G.2.1, 60, .inl (fun k => nI (xSt k)))), (ca9, .inl (G.2.1, 60, .inl (fun k => nI (xSz k)))), (ca8, .inl (G.2.1, 60, .inl (fun k => nI (xCo k)))), (ca6, .inl (G.2.1, 60, .inl (fun k => nI (xHi k))))]) [3, 4, 5, 0, 1, 2] (by decide) rfl
      have e9_0 : ((leaN xTm xSt xSz xCo xHi ow (i_1 + 1) : Nat) : Int) - 1 = (((leaN xTm xSt xSz xCo xHi ow i_1 : Nat) : Int) - 1) := (by have k9 : leaN xTm xSt xSz xCo xHi ow (i_1 + 1) = leaN xTm xSt xSz xCo xHi ow i_1 := (leaN_s _ _ _ _ _ _ _).trans (if_neg (fun h => c_6 h.1)); omega)
      have hl : lv_has ls 4 [(2, .int (sJ (((leaN xTm xSt xSz xCo xHi ow (i_1 + 1) : Nat) : Int) - 1))), (3, .int (nI (i_1 + 1))), (0, .ref caq), (1, .int (nI ow))] := by rw [e9_0]; exact lv_sub hl [1, 0, 2, 3] rfl
      exact ih_i_1 _ _ _ (by omega) trivial hP hD hS hl
    · have c_6 := of_decide_eq_true (sB_1 c_6)
      refine lv_iload_n hx hb dX1_leastWorth_21 rfl (lv_at hl 0 rfl) ?_
      refine lv_iconst (v := (-1)) hx hb dX1_leastWorth_22 (by decide) ?_
      refine sx_topI (show ((-1) : Int32) = sJ ((-1)) by decide +kernel) ?_
      refine lv_icmp_eq (tgt := 39) hx hb dX1_leastWorth_23 (by decide) (fun c_7 => ?_) (fun c_7 => ?_)
      · have c_7 : (((leaN xTm xSt xSz xCo xHi ow i_1 : Nat) : Int) - 1) = (-1) := (sJ_eq (a := (((leaN xTm xSt xSz xCo xHi ow i_1 : Nat) : Int) - 1)) (b := (-1)) (by omega) (by omega) (by omega) (by omega)).mp c_7
        refine lv_iload_n hx hb dX1_leastWorth_39 rfl (lv_at hl 1 rfl) ?_
        refine lv_istore_n (lv' := [(2, .int (nI i_1)), (3, .int (nI i_1)), (0, .ref caq), (1, .int (nI ow))]) hx hb dX1_leastWorth_40 rfl hl (by decide) rfl (fun ls hl => ?_)
        refine lv_iinc (v := nI (i_1 + 1)) (lv' := [(3, .int (nI (i_1 + 1))), (2, .int (nI i_1)), (0, .ref caq), (1, .int (nI ow))]) hx hb dX1_leastWorth_41 hl (k := 1) rfl ((congrArg (fun t => nI i_1 + t) (show Int32.ofInt 1 = nI 1 by decide +kernel)).trans (nI_add i_1 1)) (by decide) rfl (fun ls hl => ?_)
        refine lv_goto (tgt := 4) hx hb dX1_leastWorth_44 (by decide) ?_
        have hP := hP.sub (ws' := [(caq, .inr (1, [.int (nI caN), .int (nI caW), .ref ca2, .ref ca3, .ref ca4, .ref ca5, .ref ca6, .ref ca7, .ref ca8, .ref ca9, .ref ca10, .ref ca11, .ref ca12, .ref ca13, .ref ca14])), (ca4, .inl (G.2.1, 60, .inl (fun k => nI (xTm k)))), (ca7, .inl (G.2.1, 60, .inl (fun k => nI (xSt k)))), (ca9, .inl (G.2.1, 60, .inl (fun k => nI (xSz k)))), (ca8, .inl (G.2.1, 60, .inl (fun k => nI (xCo k)))), (ca6, .inl (G.2.1, 60, .inl (fun k => nI (xHi k))))]) [3, 4, 5, 0, 1, 2] rfl
        have hD := hD.sub (ws' := [(caq, .inr (1, [.int (nI caN), .int (nI caW), .ref ca2, .ref ca3, .ref ca4, .ref ca5, .ref ca6, .ref ca7, .ref ca8, .ref ca9, .ref ca10, .ref ca11, .ref ca12, .ref ca13, .ref ca14])), (ca4, .inl (G.2.1, 60, .inl (fun k => nI (xTm k)))), (ca7, .inl (G.2.1, 60, .inl (fun k => nI (xSt k)))), (ca9, .inl (G.2.1, 60, .inl (fun k => nI (xSz k)))), (ca8, .inl (G.2.1, 60, .inl (fun k => nI (xCo k)))), (ca6, .inl (G.2.1, 60, .inl (fun k => nI (xHi k))))]) [3, 4, 5, 0, 1, 2] (by decide) rfl
        have e9_0 : ((leaN xTm xSt xSz xCo xHi ow (i_1 + 1) : Nat) : Int) - 1 = ((i_1 : Nat) : Int) := (by have k9 : leaN xTm xSt xSz xCo xHi ow (i_1 + 1) = i_1 + 1 := (leaN_s _ _ _ _ _ _ _).trans (if_pos ⟨c_6, Or.inl (by omega)⟩); omega)
        have hl : lv_has ls 4 [(2, .int (sJ (((leaN xTm xSt xSz xCo xHi ow (i_1 + 1) : Nat) : Int) - 1))), (3, .int (nI (i_1 + 1))), (0, .ref caq), (1, .int (nI ow))] := by rw [e9_0]; exact lv_sub hl [1, 0, 2, 3] rfl
        exact ih_i_1 _ _ _ (by omega) trivial hP hD hS hl
      · have c_7 : ¬ ((((leaN xTm xSt xSz xCo xHi ow i_1 : Nat) : Int) - 1) = (-1)) := fun h => c_7 ((sJ_eq (a := (((leaN xTm xSt xSz xCo xHi ow i_1 : Nat) : Int) - 1)) (b := (-1)) (by omega) (by omega) (by omega) (by omega)).mpr h)
        refine lv_aload_n hx hb dX1_leastWorth_26 rfl (lv_at hl 2 rfl) ?_
        refine lv_iload_n hx hb dX1_leastWorth_27 rfl (lv_at hl 1 rfl) ?_
        have hcut : sx_cut [(ca9, .inl (G.2.1, 60, .inl (fun k => nI (xSz k)))), (ca8, .inl (G.2.1, 60, .inl (fun k => nI (xCo k)))), (ca6, .inl (G.2.1, 60, .inl (fun k => nI (xHi k)))), (caq, .inr (1, [.int (nI caN), .int (nI caW), .ref ca2, .ref ca3, .ref ca4, .ref ca5, .ref ca6, .ref ca7, .ref ca8, .ref ca9, .ref ca10, .ref ca11, .ref ca12, .ref ca13, .ref ca14])), (ca4, .inl (G.2.1, 60, .inl (fun k => nI (xTm k)))), (ca7, .inl (G.2.1, 60, .inl (fun k => nI (xSt k))))] [(caq, .inr (1, [.int (nI caN), .int (nI caW), .ref ca2, .ref ca3, .ref ca4, .ref ca5, .ref ca6, .ref ca7, .ref ca8, .ref ca9, .ref ca10, .ref ca11, .ref ca12, .ref ca13, .ref ca14])), (ca9, .inl (G.2.1, 60, .inl (fun k => nI (xSz k)))), (ca8, .inl (G.2.1, 60, .inl (fun k => nI (xCo k)))), (ca6, .inl (G.2.1, 60, .inl (fun k => nI (xHi k))))] [(ca4, .inl (G.2.1, 60, .inl (fun k => nI (xTm k)))), (ca7, .inl (G.2.1, 60, .inl (fun k => nI (xSt k))))] [3, 0, 1, 2] [4, 5] := ⟨rfl, rfl, by decide, by decide, by decide⟩
        refine sx_ki (sx_runV (As := [.int (nI i_1)]) (rest := []) F (m_X1_worth l G H.size caq caN caW ca2 ca3 ca4 ca5 ca6 ca7 ca8 ca9 ca10 ca11 ca12 ca13 ca14 xSz xCo xHi i_1 (show ∀ k, xSz k ≤ 20 from (by first | assumption | omega)) (show ∀ k, xCo k ≤ 50 from (by first | assumption | omega)) (show ∀ k, xHi k ≤ 100000 from (by first | assumption | omega)) (show i_1 < 60 from (by first | assumption | omega))) mi_X1_worth q604 qs_X1_worth q603 ⟨⟨Nat.le_of_ble_eq_true rfl, Nat.le_of_ble_eq_true rfl⟩, Nat.le_of_ble_eq_true rfl, Nat.le_of_ble_eq_true rfl⟩ hcut hP hD hS 3 1 rfl rfl rfl hl.1 rfl (Nat.le_of_ble_eq_true rfl) dX1_leastWorth_28) hcut hP hD hS hA (fun r_10 u_8 H locs w_9 hP hD hS => ?_)
        have hP : va_P (sx_D G) vwCl [(ca4, .inl (G.2.1, 60, .inl (fun k => nI (xTm k)))), (ca7, .inl (G.2.1, 60, .inl (fun k => nI (xSt k)))), (caq, .inr (1, [.int (nI caN), .int (nI caW), .ref ca2, .ref ca3, .ref ca4, .ref ca5, .ref ca6, .ref ca7, .ref ca8, .ref ca9, .ref ca10, .ref ca11, .ref ca12, .ref ca13, .ref ca14])), (ca9, .inl (G.2.1, 60, .inl (fun k => nI (xSz k)))), (ca8, .inl (G.2.1, 60, .inl (fun k => nI (xCo k)))), (ca6, .inl (G.2.1, 60, .inl (fun k => nI (xHi k))))] H := hP
        have hD : va_D A [(ca4, .inl (G.2.1, 60, .inl (fun k => nI (xTm k)))), (ca7, .inl (G.2.1, 60, .inl (fun k => nI (xSt k)))), (caq, .inr (1, [.int (nI caN), .int (nI caW), .ref ca2, .ref ca3, .ref ca4, .ref ca5, .ref ca6, .ref ca7, .ref ca8, .ref ca9, .ref ca10, .ref ca11, .ref ca12, .ref ca13, .ref ca14])), (ca9, .inl (G.2.1, 60, .inl (fun k => nI (xSz k)))), (ca8, .inl (G.2.1, 60, .inl (fun k => nI (xCo k)))), (ca6, .inl (G.2.1, 60, .inl (fun k => nI (xHi k))))] := hD
        have w_9 : r_10 = nI (worN (xCo i_1) (xHi i_1) (xSz i_1)) := w_9
        subst w_9
        have q9 : (((leaN xTm xSt xSz xCo xHi ow i_1 : Nat) : Int) - 1) = (((leaN xTm xSt xSz xCo xHi ow i_1 - 1 : Nat)) : Int) := by omega
        have hl : lv_has ls 4 [(2, .int (nI (leaN xTm xSt xSz xCo xHi ow i_1 - 1))), (3, .int (nI i_1)), (0, .ref caq), (1, .int (nI ow))] := by have h9 := hl; rw [q9] at h9; exact h9
        have q8 := worN_lt (xSz (leaN xTm xSt xSz xCo xHi ow i_1 - 1)) (h_co (leaN xTm xSt xSz xCo xHi ow i_1 - 1)) (h_hi (leaN xTm xSt xSz xCo xHi ow i_1 - 1))
        refine lv_aload_n hx hb dX1_leastWorth_31 rfl (lv_at hl 2 rfl) ?_
        refine lv_iload_n hx hb dX1_leastWorth_32 rfl (lv_at hl 0 rfl) ?_
        have hcut : sx_cut [(ca4, .inl (G.2.1, 60, .inl (fun k => nI (xTm k)))), (ca7, .inl (G.2.1, 60, .inl (fun k => nI (xSt k)))), (caq, .inr (1, [.int (nI caN), .int (nI caW), .ref ca2, .ref ca3, .ref ca4, .ref ca5, .ref ca6, .ref ca7, .ref ca8, .ref ca9, .ref ca10, .ref ca11, .ref ca12, .ref ca13, .ref ca14])), (ca9, .inl (G.2.1, 60, .inl (fun k => nI (xSz k)))), (ca8, .inl (G.2.1, 60, .inl (fun k => nI (xCo k)))), (ca6, .inl (G.2.1, 60, .inl (fun k => nI (xHi k))))] [(caq, .inr (1, [.int (nI caN), .int (nI caW), .ref ca2, .ref ca3, .ref ca4, .ref ca5, .ref ca6, .ref ca7, .ref ca8, .ref ca9, .ref ca10, .ref ca11, .ref ca12, .ref ca13, .ref ca14])), (ca9, .inl (G.2.1, 60, .inl (fun k => nI (xSz k)))), (ca8, .inl (G.2.1, 60, .inl (fun k => nI (xCo k)))), (ca6, .inl (G.2.1, 60, .inl (fun k => nI (xHi k))))] [(ca4, .inl (G.2.1, 60, .inl (fun k => nI (xTm k)))), (ca7, .inl (G.2.1, 60, .inl (fun k => nI (xSt k))))] [2, 3, 4, 5] [0, 1] := ⟨rfl, rfl, by decide, by decide, by decide⟩
        refine sx_ki (sx_runV (As := [.int (nI (leaN xTm xSt xSz xCo xHi ow i_1 - 1))]) (rest := [.int (nI (worN (xCo i_1) (xHi i_1) (xSz i_1)))]) F (m_X1_worth l G H.size caq caN caW ca2 ca3 ca4 ca5 ca6 ca7 ca8 ca9 ca10 ca11 ca12 ca13 ca14 xSz xCo xHi (leaN xTm xSt xSz xCo xHi ow i_1 - 1) (show ∀ k, xSz k ≤ 20 from (by first | assumption | omega)) (show ∀ k, xCo k ≤ 50 from (by first | assumption | omega)) (show ∀ k, xHi k ≤ 100000 from (by first | assumption | omega)) (show (leaN xTm xSt xSz xCo xHi ow i_1 - 1) < 60 from (by first | assumption | omega))) mi_X1_worth q604 qs_X1_worth q603 ⟨⟨Nat.le_of_ble_eq_true rfl, Nat.le_of_ble_eq_true rfl⟩, Nat.le_of_ble_eq_true rfl, Nat.le_of_ble_eq_true rfl⟩ hcut hP hD hS 2 1 rfl rfl rfl hl.1 rfl (Nat.le_of_ble_eq_true rfl) dX1_leastWorth_33) hcut hP hD hS hA (fun r_13 u_11 H locs w_12 hP hD hS => ?_)
        have hP : va_P (sx_D G) vwCl [(ca4, .inl (G.2.1, 60, .inl (fun k => nI (xTm k)))), (ca7, .inl (G.2.1, 60, .inl (fun k => nI (xSt k)))), (caq, .inr (1, [.int (nI caN), .int (nI caW), .ref ca2, .ref ca3, .ref ca4, .ref ca5, .ref ca6, .ref ca7, .ref ca8, .ref ca9, .ref ca10, .ref ca11, .ref ca12, .ref ca13, .ref ca14])), (ca9, .inl (G.2.1, 60, .inl (fun k => nI (xSz k)))), (ca8, .inl (G.2.1, 60, .inl (fun k => nI (xCo k)))), (ca6, .inl (G.2.1, 60, .inl (fun k => nI (xHi k))))] H := hP
        have hD : va_D A [(ca4, .inl (G.2.1, 60, .inl (fun k => nI (xTm k)))), (ca7, .inl (G.2.1, 60, .inl (fun k => nI (xSt k)))), (caq, .inr (1, [.int (nI caN), .int (nI caW), .ref ca2, .ref ca3, .ref ca4, .ref ca5, .ref ca6, .ref ca7, .ref ca8, .ref ca9, .ref ca10, .ref ca11, .ref ca12, .ref ca13, .ref ca14])), (ca9, .inl (G.2.1, 60, .inl (fun k => nI (xSz k)))), (ca8, .inl (G.2.1, 60, .inl (fun k => nI (xCo k)))), (ca6, .inl (G.2.1, 60, .inl (fun k => nI (xHi k))))] := hD
        have w_12 : r_13 = nI (worN (xCo (leaN xTm xSt xSz xCo xHi ow i_1 - 1)) (xHi (leaN xTm xSt xSz xCo xHi ow i_1 - 1)) (xSz (leaN xTm xSt xSz xCo xHi ow i_1 - 1))) := w_12
        subst w_12
        refine lv_icmp_ge (tgt := 41) hx hb dX1_leastWorth_36 (by decide) (fun c_14 => ?_) (fun c_14 => ?_)
        · have c_14 : (worN (xCo (leaN xTm xSt xSz xCo xHi ow i_1 - 1)) (xHi (leaN xTm xSt xSz xCo xHi ow i_1 - 1)) (xSz (leaN xTm xSt xSz xCo xHi ow i_1 - 1))) ≤ (worN (xCo i_1) (xHi i_1) (xSz i_1)) := by have h9 : ((worN (xCo (leaN xTm xSt xSz xCo xHi ow i_1 - 1)) (xHi (leaN xTm xSt xSz xCo xHi ow i_1 - 1)) (xSz (leaN xTm xSt xSz xCo xHi ow i_1 - 1)) : Nat) : Int) ≤ ((worN (xCo i_1) (xHi i_1) (xSz i_1) : Nat) : Int) := (sJ_le (a := ((worN (xCo (leaN xTm xSt xSz xCo xHi ow i_1 - 1)) (xHi (leaN xTm xSt xSz xCo xHi ow i_1 - 1)) (xSz (leaN xTm xSt xSz xCo xHi ow i_1 - 1)) : Nat) : Int)) (b := ((worN (xCo i_1) (xHi i_1) (xSz i_1) : Nat) : Int)) (by omega) (by omega) (by omega) (by omega)).mp c_14; omega
          refine lv_iinc (v := nI (i_1 + 1)) (lv' := [(3, .int (nI (i_1 + 1))), (2, .int (nI (leaN xTm xSt xSz xCo xHi ow i_1 - 1))), (0, .ref caq), (1, .int (nI ow))]) hx hb dX1_leastWorth_41 hl (k := 1) rfl ((congrArg (fun t => nI i_1 + t) (show Int32.ofInt 1 = nI 1 by decide +kernel)).trans (nI_add i_1 1)) (by decide) rfl (fun ls hl => ?_)
          refine lv_goto (tgt := 4) hx hb dX1_leastWorth_44 (by decide) ?_
          have hP := hP.sub (ws' := [(caq, .inr (1, [.int (nI caN), .int (nI caW), .ref ca2, .ref ca3, .ref ca4, .ref ca5, .ref ca6, .ref ca7, .ref ca8, .ref ca9, .ref ca10, .ref ca11, .ref ca12, .ref ca13, .ref ca14])), (ca4, .inl (G.2.1, 60, .inl (fun k => nI (xTm k)))), (ca7, .inl (G.2.1, 60, .inl (fun k => nI (xSt k)))), (ca9, .inl (G.2.1, 60, .inl (fun k => nI (xSz k)))), (ca8, .inl (G.2.1, 60, .inl (fun k => nI (xCo k)))), (ca6, .inl (G.2.1, 60, .inl (fun k => nI (xHi k))))]) [2, 0, 1, 3, 4, 5] rfl
          have hD := hD.sub (ws' := [(caq, .inr (1, [.int (nI caN), .int (nI caW), .ref ca2, .ref ca3, .ref ca4, .ref ca5, .ref ca6, .ref ca7, .ref ca8, .ref ca9, .ref ca10, .ref ca11, .ref ca12, .ref ca13, .ref ca14])), (ca4, .inl (G.2.1, 60, .inl (fun k => nI (xTm k)))), (ca7, .inl (G.2.1, 60, .inl (fun k => nI (xSt k)))), (ca9, .inl (G.2.1, 60, .inl (fun k => nI (xSz k)))), (ca8, .inl (G.2.1, 60, .inl (fun k => nI (xCo k)))), (ca6, .inl (G.2.1, 60, .inl (fun k => nI (xHi k))))]) [2, 0, 1, 3, 4, 5] (by decide) rfl
          have e9_0 : ((leaN xTm xSt xSz xCo xHi ow (i_1 + 1) : Nat) : Int) - 1 = ((leaN xTm xSt xSz xCo xHi ow i_1 - 1 : Nat) : Int) := (by have k9 : leaN xTm xSt xSz xCo xHi ow (i_1 + 1) = leaN xTm xSt xSz xCo xHi ow i_1 := (leaN_s _ _ _ _ _ _ _).trans (if_neg (fun h => by have h9 := h.2; omega)); omega)
          have hl : lv_has ls 4 [(2, .int (sJ (((leaN xTm xSt xSz xCo xHi ow (i_1 + 1) : Nat) : Int) - 1))), (3, .int (nI (i_1 + 1))), (0, .ref caq), (1, .int (nI ow))] := by rw [e9_0]; exact lv_sub hl [1, 0, 2, 3] rfl
          exact ih_i_1 _ _ _ (by omega) trivial hP hD hS hl
        · have c_14 : ¬ ((worN (xCo (leaN xTm xSt xSz xCo xHi ow i_1 - 1)) (xHi (leaN xTm xSt xSz xCo xHi ow i_1 - 1)) (xSz (leaN xTm xSt xSz xCo xHi ow i_1 - 1))) ≤ (worN (xCo i_1) (xHi i_1) (xSz i_1))) := by have h9 : ¬ (((worN (xCo (leaN xTm xSt xSz xCo xHi ow i_1 - 1)) (xHi (leaN xTm xSt xSz xCo xHi ow i_1 - 1)) (xSz (leaN xTm xSt xSz xCo xHi ow i_1 - 1)) : Nat) : Int) ≤ ((worN (xCo i_1) (xHi i_1) (xSz i_1) : Nat) : Int)) := fun h => c_14 ((sJ_le (a := ((worN (xCo (leaN xTm xSt xSz xCo xHi ow i_1 - 1)) (xHi (leaN xTm xSt xSz xCo xHi ow i_1 - 1)) (xSz (leaN xTm xSt xSz xCo xHi ow i_1 - 1)) : Nat) : Int)) (b := ((worN (xCo i_1) (xHi i_1) (xSz i_1) : Nat) : Int)) (by omega) (by omega) (by omega) (by omega)).mpr h); omega
          refine lv_iload_n hx hb dX1_leastWorth_39 rfl (lv_at hl 1 rfl) ?_
          refine lv_istore_n (lv' := [(2, .int (nI i_1)), (3, .int (nI i_1)), (0, .ref caq), (1, .int (nI ow))]) hx hb dX1_leastWorth_40 rfl hl (by decide) rfl (fun ls hl => ?_)
          refine lv_iinc (v := nI (i_1 + 1)) (lv' := [(3, .int (nI (i_1 + 1))), (2, .int (nI i_1)), (0, .ref caq), (1, .int (nI ow))]) hx hb dX1_leastWorth_41 hl (k := 1) rfl ((congrArg (fun t => nI i_1 + t) (show Int32.ofInt 1 = nI 1 by decide +kernel)).trans (nI_add i_1 1)) (by decide) rfl (fun ls hl => ?_)
          refine lv_goto (tgt := 4) hx hb dX1_leastWorth_44 (by decide) ?_
          have hP := hP.sub (ws' := [(caq, .inr (1, [.int (nI caN), .int (nI caW), .ref ca2, .ref ca3, .ref ca4, .ref ca5, .ref ca6, .ref ca7, .ref ca8, .ref ca9, .ref ca10, .ref ca11, .ref ca12, .ref ca13, .ref ca14])), (ca4, .inl (G.2.1, 60, .inl (fun k => nI (xTm k)))), (ca7, .inl (G.2.1, 60, .inl (fun k => nI (xSt k)))), (ca9, .inl (G.2.1, 60, .inl (fun k => nI (xSz k)))), (ca8, .inl (G.2.1, 60, .inl (fun k => nI (xCo k)))), (ca6, .inl (G.2.1, 60, .inl (fun k => nI (xHi k))))]) [2, 0, 1, 3, 4, 5] rfl
          have hD := hD.sub (ws' := [(caq, .inr (1, [.int (nI caN), .int (nI caW), .ref ca2, .ref ca3, .ref ca4, .ref ca5, .ref ca6, .ref ca7, .ref ca8, .ref ca9, .ref ca10, .ref ca11, .ref ca12, .ref ca13, .ref ca14])), (ca4, .inl (G.2.1, 60, .inl (fun k => nI (xTm k)))), (ca7, .inl (G.2.1, 60, .inl (fun k => nI (xSt k)))), (ca9, .inl (G.2.1, 60, .inl (fun k => nI (xSz k)))), (ca8, .inl (G.2.1, 60, .inl (fun k => nI (xCo k)))), (ca6, .inl (G.2.1, 60, .inl (fun k => nI (xHi k))))]) [2, 0, 1, 3, 4, 5] (by decide) rfl
          have e9_0 : ((leaN xTm xSt xSz xCo xHi ow (i_1 + 1) : Nat) : Int) - 1 = ((i_1 : Nat) : Int) := (by have k9 : leaN xTm xSt xSz xCo xHi ow (i_1 + 1) = i_1 + 1 := (leaN_s _ _ _ _ _ _ _).trans (if_pos ⟨c_6, Or.inr (by omega)⟩); omega)
          have hl : lv_has ls 4 [(2, .int (sJ (((leaN xTm xSt xSz xCo xHi ow (i_1 + 1) : Nat) : Int) - 1))), (3, .int (nI (i_1 + 1))), (0, .ref caq), (1, .int (nI ow))] := by rw [e9_0]; exact lv_sub hl [1, 0, 2, 3] rfl
          exact ih_i_1 _ _ _ (by omega) trivial hP hD hS hl
