/-! pure words of the cache: hits, families, the least -/
def chgN (va pv : Nat → Nat) (e : Nat) : Nat → Nat
  | 0 => 0
  | n + 1 => if va (e * 6 + n) = pv n then chgN va pv e n else chgN va pv e n ||| 2 ^ n
theorem chgN_s (va pv : Nat → Nat) (e n : Nat) : chgN va pv e (n + 1) = if va (e * 6 + n) = pv n then chgN va pv e n else chgN va pv e n ||| 2 ^ n := rfl
theorem chgN_b (va pv : Nat → Nat) (e : Nat) : ∀ n, chgN va pv e n < 2 ^ n
  | 0 => Nat.zero_lt_one
  | n + 1 => by
    have ih := chgN_b va pv e n
    have h2 : 2 ^ n < 2 ^ (n + 1) := Nat.pow_lt_pow_right (by decide) (Nat.lt_succ_self n)
    rw [chgN_s]
    split
    · omega
    · exact Nat.or_lt_two_pow (by omega) h2
theorem and_b {a b N : Nat} (h : a < N) : a &&& b < N := Nat.lt_of_le_of_lt Nat.and_le_left h
theorem sDf_b {a b k : Nat} (h : a < 2 ^ k) : sDf a b < 2 ^ k := Nat.xor_lt_two_pow h (and_b h)
def allB (p : Nat → Bool) : Nat → Bool
  | 0 => true
  | n + 1 => allB p n && p n
theorem allB_iff {p : Nat → Bool} : ∀ {n : Nat}, allB p n = true ↔ ∀ k, k < n → p k = true
  | 0 => ⟨fun _ k h => absurd h (Nat.not_lt_zero k), fun _ => rfl⟩
  | n + 1 => by
    have ih := allB_iff (p := p) (n := n)
    show (allB p n && p n) = true ↔ _
    rw [Bool.and_eq_true, ih]
    constructor
    · intro h k hk
      by_cases e : k = n
      · subst e; exact h.2
      · exact h.1 k (by omega)
    · intro h
      exact ⟨fun k hk => h k (by omega), h n (by omega)⟩
abbrev inpP (ac ct va zFi zCt zVa zSe zOu : Nat → Nat) (n e : Nat) : Prop :=
  ac e < n ∧ allB (fun f => decide ((zFi (ac e)).testBit f = true → ct (e * 8 + f) = zCt f)) 8 = true ∧ sDf (chgN va zVa e 6 &&& zSe (ac e)) (zOu (ac e)) = 0
def fstN (p : Nat → Prop) [DecidablePred p] : Nat → Nat
  | 0 => 0
  | n + 1 => if fstN p n = 0 ∧ p n then n + 1 else fstN p n
theorem fstN_s (p : Nat → Prop) [DecidablePred p] (n : Nat) : fstN p (n + 1) = if fstN p n = 0 ∧ p n then n + 1 else fstN p n := rfl
theorem fstN_le (p : Nat → Prop) [DecidablePred p] : ∀ n, fstN p n ≤ n
  | 0 => Nat.le_refl 0
  | n + 1 => by
    have ih := fstN_le p n
    rw [fstN_s]
    split <;> omega
theorem fstN_at {p : Nat → Prop} [DecidablePred p] {i : Nat} (h0 : fstN p i = 0) (h1 : p i) : ∀ n, i < n → fstN p n = i + 1
  | 0, h => absurd h (Nat.not_lt_zero _)
  | n + 1, h => by
    rw [fstN_s]
    by_cases q : i < n
    · have ih := fstN_at h0 h1 n q
      rw [if_neg (by omega)]; exact ih
    · have e : i = n := by omega
      subst e
      rw [if_pos ⟨h0, h1⟩]
def famN (fs : Nat → Nat) (e : Nat) : Nat → Nat
  | 0 => 2 ^ e
  | n + 1 => if fs (e + 1 + n) &&& famN fs e n = 0 then famN fs e n else famN fs e n ||| 2 ^ (e + 1 + n)
theorem famN_s (fs : Nat → Nat) (e n : Nat) : famN fs e (n + 1) = if fs (e + 1 + n) &&& famN fs e n = 0 then famN fs e n else famN fs e n ||| 2 ^ (e + 1 + n) := rfl
theorem famN_b (fs : Nat → Nat) (e : Nat) : ∀ n, famN fs e n < 2 ^ (e + 1 + n)
  | 0 => Nat.pow_lt_pow_right (by decide) (Nat.lt_succ_self e)
  | n + 1 => by
    have ih := famN_b fs e n
    have h2 : 2 ^ (e + 1 + n) < 2 ^ (e + 1 + (n + 1)) := Nat.pow_lt_pow_right (by decide) (by omega)
    rw [famN_s]
    split
    · omega
    · exact Nat.or_lt_two_pow (by omega) h2
theorem pow_b {a b N : Nat} (h : a < 2 ^ b) (hb : b ≤ N) : a < 2 ^ N := Nat.lt_of_lt_of_le h (Nat.pow_le_pow_right (by decide) hb)
def offN (fs : Nat → Nat) (e n : Nat) : Nat := sDf (famN fs e (n - (e + 1))) (2 ^ e)
def dropN (ac : Nat → Nat) (a : Nat) (st : Nat → Nat) (n : Nat) : Nat → Nat := fun k => if k < n ∧ ac k = a ∧ st k = 0 then 1 else st k
def poisN (S e : Nat) (st : Nat → Nat) (n : Nat) : Nat → Nat := fun k => if e ≤ k ∧ k < n ∧ S.testBit k = true then 2 else st k
def lowN (p : Nat → Prop) [DecidablePred p] (v : Nat → Nat) : Nat → Nat
  | 0 => 0
  | n + 1 => if p n ∧ (lowN p v n = 0 ∨ v n < v (lowN p v n - 1)) then n + 1 else lowN p v n
theorem lowN_s (p : Nat → Prop) [DecidablePred p] (v : Nat → Nat) (n : Nat) : lowN p v (n + 1) = if p n ∧ (lowN p v n = 0 ∨ v n < v (lowN p v n - 1)) then n + 1 else lowN p v n := rfl
theorem lowN_le (p : Nat → Prop) [DecidablePred p] (v : Nat → Nat) : ∀ n, lowN p v n ≤ n
  | 0 => Nat.le_refl 0
  | n + 1 => by
    have ih := lowN_le p v n
    rw [lowN_s]
    split <;> omega
set_option maxHeartbeats 4000000 in
set_option maxRecDepth 100000 in
theorem m_X1_changedSettings (l : Launch) (G : sx_G) (sz : Nat) (caq : Nat) (caN : Nat) (caW : Nat) (ca2 : Nat) (ca3 : Nat) (ca4 : Nat) (ca5 : Nat) (ca6 : Nat) (ca7 : Nat) (ca8 : Nat) (ca9 : Nat) (ca10 : Nat) (ca11 : Nat) (ca12 : Nat) (ca13 : Nat) (ca14 : Nat) (xVa : Nat → Nat) (plq : Nat) (pl0 : Nat) (pl1 : Nat) (plN : Nat) (pl3 : Nat) (pl4 : Nat) (pl5 : Nat) (pl6 : Nat) (pl7 : Nat) (pl8 : Nat) (pl9 : Nat) (zVa : Nat → Nat) (ei : Nat) (h_va : ∀ k, xVa k ≤ 9) (h_zv : ∀ k, zVa k ≤ 9) (h_e : ei < 60) : sx_Met l yX1_changedSettings cX1_changedSettings 5 (some .int) 0 0 0 0 G [.ref caq, .ref plq, .int (nI ei)] [(caq, .inr (1, [.int (nI caN), .int (nI caW), .ref ca2, .ref ca3, .ref ca4, .ref ca5, .ref ca6, .ref ca7, .ref ca8, .ref ca9, .ref ca10, .ref ca11, .ref ca12, .ref ca13, .ref ca14])), (ca11, .inl (G.2.1, 360, .inl (fun k => nI (xVa k)))), (plq, .inr (4, [.ref pl0, .ref pl1, .int (nI plN), .ref pl3, .ref pl4, .ref pl5, .ref pl6, .ref pl7, .ref pl8, .ref pl9])), (pl1, .inl (G.2.1, 6, .inl (fun k => nI (zVa k))))] sz (sx_Qi G (fun (r : Int32) (u : Unit) => r = nI (chgN xVa zVa ei 6)) (fun (u : Unit) => [(caq, .inr (1, [.int (nI caN), .int (nI caW), .ref ca2, .ref ca3, .ref ca4, .ref ca5, .ref ca6, .ref ca7, .ref ca8, .ref ca9, .ref ca10, .ref ca11, .ref ca12, .ref ca13, .ref ca14])), (ca11, .inl (G.2.1, 360, .inl (fun k => nI (xVa k)))), (plq, .inr (4, [.ref pl0, .ref pl1, .int (nI plN), .ref pl3, .ref pl4, .ref pl5, .ref pl6, .ref pl7, .ref pl8, .ref pl9])), (pl1, .inl (G.2.1, 6, .inl (fun k => nI (zVa k))))])) := by
  refine sx_start (by decide) rfl (fun p e s m below meth c A ls F hr hlk hnm hP hD hS hl => ?_)
  obtain ⟨hx, hb, hml, hown, hts, hK, hE, hA⟩ := id F
  have hown : s.vm.findClass RX1 = some m.cls := hown
  generalize hHe : s.heap = H at hP
  have hS : va_S A s.heap H [] := by rw [← hHe]; exact va_S.rf
  have hl : lv_has ls 5 [(0, .ref caq), (1, .ref plq), (2, .int (nI ei))] := hl
  refine lv_iconst (v := 0) hx hb dX1_changedSettings_0 (by decide) ?_
  refine lv_istore_n (lv' := [(3, .int 0), (0, .ref caq), (1, .ref plq), (2, .int (nI ei))]) hx hb dX1_changedSettings_1 rfl hl (by decide) rfl (fun ls hl => ?_)
  refine lv_iconst (v := 0) hx hb dX1_changedSettings_2 (by decide) ?_
  refine lv_istore (lv' := [(4, .int 0), (3, .int 0), (0, .ref caq), (1, .ref plq), (2, .int (nI ei))]) hx hb dX1_changedSettings_3 hl (by decide) rfl (fun ls hl => ?_)
  refine sx_loop (nL := 5) (fun i => [(caq, .inr (1, [.int (nI caN), .int (nI caW), .ref ca2, .ref ca3, .ref ca4, .ref ca5, .ref ca6, .ref ca7, .ref ca8, .ref ca9, .ref ca10, .ref ca11, .ref ca12, .ref ca13, .ref ca14])), (ca11, .inl (G.2.1, 360, .inl (fun k => nI (xVa k)))), (plq, .inr (4, [.ref pl0, .ref pl1, .int (nI plN), .ref pl3, .ref pl4, .ref pl5, .ref pl6, .ref pl7, .ref pl8, .ref pl9])), (pl1, .inl (G.2.1, 6, .inl (fun k => nI (zVa k))))]) (fun i => [(3, .int (nI (chgN xVa zVa ei i))), (4, .int (nI i)), (0, .ref caq), (1, .ref plq), (2, .int (nI ei))]) (fun i => True) 6 trivial hP hD hS (lv_sub hl [1, 0, 2, 3, 4] rfl) (fun i_1 hi_i_1 hI_i_1 H locs ls hP hD hS hl ih_i_1 => ?_)
  have hP : va_P (sx_D G) vwCl [(caq, .inr (1, [.int (nI caN), .int (nI caW), .ref ca2, .ref ca3, .ref ca4, .ref ca5, .ref ca6, .ref ca7, .ref ca8, .ref ca9, .ref ca10, .ref ca11, .ref ca12, .ref ca13, .ref ca14])), (ca11, .inl (G.2.1, 360, .inl (fun k => nI (xVa k)))), (plq, .inr (4, [.ref pl0, .ref pl1, .int (nI plN), .ref pl3, .ref pl4, .ref pl5, .ref pl6, .ref pl7, .ref pl8, .ref pl9])), (pl1, .inl (G.2.1, 6, .inl (fun k => nI (zVa k))))] H := hP
  have hD : va_D A [(caq, .inr (1, [.int (nI caN), .int (nI caW), .ref ca2, .ref ca3, .ref ca4, .ref ca5, .ref ca6, .ref ca7, .ref ca8, .ref ca9, .ref ca10, .ref ca11, .ref ca12, .ref ca13, .ref ca14])), (ca11, .inl (G.2.1, 360, .inl (fun k => nI (xVa k)))), (plq, .inr (4, [.ref pl0, .ref pl1, .int (nI plN), .ref pl3, .ref pl4, .ref pl5, .ref pl6, .ref pl7, .ref pl8, .ref pl9])), (pl1, .inl (G.2.1, 6, .inl (fun k => nI (zVa k))))] := hD
  have hl : lv_has ls 5 [(3, .int (nI (chgN xVa zVa ei i_1))), (4, .int (nI i_1)), (0, .ref caq), (1, .ref plq), (2, .int (nI ei))] := hl
  have hI_i_1 : True := hI_i_1
  refine lv_iload hx hb dX1_changedSettings_5 (lv_at hl 1 rfl) ?_
  refine lv_bipush (v := 6) hx hb dX1_changedSettings_7 (by decide) ?_
  refine lv_icmp_ge (tgt := 47) hx hb dX1_changedSettings_9 (by decide) (fun c_2 => ?_) (fun c_2 => ?_)
  · have c_2 : 6 ≤ i_1 := by have h9 : (6 : Int) ≤ ((i_1 : Nat) : Int) := (sJ_le (a := (6 : Int)) (b := ((i_1 : Nat) : Int)) (by omega) (by omega) (by omega) (by omega)).mp c_2; omega
    refine lv_iload_n hx hb dX1_changedSettings_47 rfl (lv_at hl 0 rfl) ?_
    exact (sx_iret (v := nI (chgN xVa zVa ei i_1)) () hx hb hr rfl hlk hP hD hS (congrArg (fun z => nI (chgN xVa zVa ei z)) (by omega)) dX1_changedSettings_48 rfl rfl)
  · have c_2 : ¬ (6 ≤ i_1) := by have h9 : ¬ ((6 : Int) ≤ ((i_1 : Nat) : Int)) := fun h => c_2 ((sJ_le (a := (6 : Int)) (b := ((i_1 : Nat) : Int)) (by omega) (by omega) (by omega) (by omega)).mpr h); omega
    refine lv_aload_n hx hb dX1_changedSettings_12 rfl (lv_at hl 2 rfl) ?_
    refine va_get (D := sx_D G) (ci := 1) (v := .ref ca11) (C := RX1) (T := TX1) (N := 15) hx hb hts inX1 hown hK hP 0 rfl rfl 11 (by decide) (hts _ q192) (fun _ h9 => h9) rfl dX1_changedSettings_13 ?_
    refine lv_iload_n hx hb dX1_changedSettings_16 rfl (lv_at hl 4 rfl) ?_
    refine lv_bipush (v := 6) hx hb dX1_changedSettings_17 (by decide) ?_
    refine lv_imul hx hb dX1_changedSettings_19 ?_
    refine sx_topI (pk_mul ei 6) ?_
    refine lv_iload hx hb dX1_changedSettings_20 (lv_at hl 1 rfl) ?_
    refine lv_iadd hx hb dX1_changedSettings_22 ?_
    refine sx_topI (nI_add (ei * 6) i_1) ?_
    refine sx_ild (X := ((ei * 6) + i_1)) hx hb hK hP 1 rfl (by omega) rfl dX1_changedSettings_23 ?_
    have b_3 := h_va ((ei * 6) + i_1)
    refine lv_aload_n hx hb dX1_changedSettings_24 rfl (lv_at hl 3 rfl) ?_
    refine va_getN (D := sx_D G) (ci := 4) (v := .ref pl1) (C := RX4) (T := TX4) (N := 10) hx hb hts inX4 hown hK hP 2 rfl rfl 1 (by decide) (hts _ q45) (fun _ h9 => h9) rfl dX1_changedSettings_25 ?_
    refine lv_iload hx hb dX1_changedSettings_28 (lv_at hl 1 rfl) ?_
    refine sx_ild (X := i_1) hx hb hK hP 3 rfl (by omega) rfl dX1_changedSettings_30 ?_
    have b_4 := h_zv i_1
    refine lv_icmp_eq (tgt := 41) hx hb dX1_changedSettings_31 (by decide) (fun c_5 => ?_) (fun c_5 => ?_)
    · have c_5 : (xVa ((ei * 6) + i_1)) = (zVa i_1) := by have h9 : ((xVa ((ei * 6) + i_1) : Nat) : Int) = ((zVa i_1 : Nat) : Int) := (sJ_eq (a := ((xVa ((ei * 6) + i_1) : Nat) : Int)) (b := ((zVa i_1 : Nat) : Int)) (by omega) (by omega) (by omega) (by omega)).mp c_5; omega
      refine lv_iinc (v := nI (i_1 + 1)) (lv' := [(4, .int (nI (i_1 + 1))), (3, .int (nI (chgN xVa zVa ei i_1))), (0, .ref caq), (1, .ref plq), (2, .int (nI ei))]) hx hb dX1_changedSettings_41 hl (k := 1) rfl ((congrArg (fun t => nI i_1 + t) (show Int32.ofInt 1 = nI 1 by decide +kernel)).trans (nI_add i_1 1)) (by decide) rfl (fun ls hl => ?_)
      refine lv_goto (tgt := 5) hx hb dX1_changedSettings_44 (by decide) ?_
      have e9_0 : chgN xVa zVa ei (i_1 + 1) = (chgN xVa zVa ei i_1) := (by rw [chgN_s, if_pos c_5])
      have hl : lv_has ls 5 [(3, .int (nI (chgN xVa zVa ei (i_1 + 1)))), (4, .int (nI (i_1 + 1))), (0, .ref caq), (1, .ref plq), (2, .int (nI ei))] := by rw [e9_0]; exact lv_sub hl [1, 0, 2, 3, 4] rfl
      exact ih_i_1 _ _ _ (by omega) trivial hP hD hS hl
    · have c_5 : ¬ ((xVa ((ei * 6) + i_1)) = (zVa i_1)) := by have h9 : ¬ (((xVa ((ei * 6) + i_1) : Nat) : Int) = ((zVa i_1 : Nat) : Int)) := fun h => c_5 ((sJ_eq (a := ((xVa ((ei * 6) + i_1) : Nat) : Int)) (b := ((zVa i_1 : Nat) : Int)) (by omega) (by omega) (by omega) (by omega)).mpr h); omega
      refine lv_iload_n hx hb dX1_changedSettings_34 rfl (lv_at hl 0 rfl) ?_
      refine lv_iconst (v := 1) hx hb dX1_changedSettings_35 (by decide) ?_
      refine lv_iload hx hb dX1_changedSettings_36 (lv_at hl 1 rfl) ?_
      refine lv_ishl hx hb dX1_changedSettings_38 ?_
      refine sx_topI (sx_shl1 (k := i_1) (by omega)) ?_
      refine lv_ior hx hb dX1_changedSettings_39 ?_
      refine sx_topI (sx_or (chgN xVa zVa ei i_1) (2 ^ i_1)) ?_
      refine lv_istore_n (lv' := [(3, .int (nI ((chgN xVa zVa ei i_1) ||| (2 ^ i_1)))), (4, .int (nI i_1)), (0, .ref caq), (1, .ref plq), (2, .int (nI ei))]) hx hb dX1_changedSettings_40 rfl hl (by decide) rfl (fun ls hl => ?_)
      refine lv_iinc (v := nI (i_1 + 1)) (lv' := [(4, .int (nI (i_1 + 1))), (3, .int (nI ((chgN xVa zVa ei i_1) ||| (2 ^ i_1)))), (0, .ref caq), (1, .ref plq), (2, .int (nI ei))]) hx hb dX1_changedSettings_41 hl (k := 1) rfl ((congrArg (fun t => nI i_1 + t) (show Int32.ofInt 1 = nI 1 by decide +kernel)).trans (nI_add i_1 1)) (by decide) rfl (fun ls hl => ?_)
      refine lv_goto (tgt := 5) hx hb dX1_changedSettings_44 (by decide) ?_
      have e9_0 : chgN xVa zVa ei (i_1 + 1) = ((chgN xVa zVa ei i_1) ||| (2 ^ i_1)) := (by rw [chgN_s, if_neg c_5])
      have hl : lv_has ls 5 [(3, .int (nI (chgN xVa zVa ei (i_1 + 1)))), (4, .int (nI (i_1 + 1))), (0, .ref caq), (1, .ref plq), (2, .int (nI ei))] := by rw [e9_0]; exact lv_sub hl [1, 0, 2, 3, 4] rfl
      exact ih_i_1 _ _ _ (by omega) trivial hP hD hS hl
set_option maxHeartbeats 4000000 in
set_option maxRecDepth 100000 in
theorem m_X1_hasPrints (l : Launch) (G : sx_G) (sz : Nat) (caq : Nat) (caN : Nat) (caW : Nat) (ca2 : Nat) (ca3 : Nat) (ca4 : Nat) (ca5 : Nat) (ca6 : Nat) (ca7 : Nat) (ca8 : Nat) (ca9 : Nat) (ca10 : Nat) (ca11 : Nat) (ca12 : Nat) (ca13 : Nat) (ca14 : Nat) (xPs : Nat → Int) (goq : Nat) (go0 : Nat) (go1 : Nat) (gPr : Nat → Int) (S : Nat) (ei : Nat) (h_ps : ∀ k, -1 ≤ xPs k ∧ xPs k ≤ 996) (h_gp : ∀ k, -1 ≤ gPr k ∧ gPr k ≤ 996) (h_e : ei < 60) (h_S : S < 1073741824) : sx_Met l yX1_hasPrints cX1_hasPrints 5 (some .boolean) 1 22 0 0 G [.ref caq, .int (nI S), .ref goq, .int (nI ei)] [(caq, .inr (1, [.int (nI caN), .int (nI caW), .ref ca2, .ref ca3, .ref ca4, .ref ca5, .ref ca6, .ref ca7, .ref ca8, .ref ca9, .ref ca10, .ref ca11, .ref ca12, .ref ca13, .ref ca14])), (ca12, .inl (G.2.1, 840, .inl (fun k => sJ (xPs k)))), (goq, .inr (3, [.ref go0, .ref go1])), (go0, .inl (G.2.1, 14, .inl (fun k => sJ (gPr k))))] sz (sx_Qi G (fun (r : Int32) (u : Unit) => r = sB (allB (fun a => decide (S.testBit a = true → xPs (ei * 14 + a) = gPr a)) 14)) (fun (u : Unit) => [(caq, .inr (1, [.int (nI caN), .int (nI caW), .ref ca2, .ref ca3, .ref ca4, .ref ca5, .ref ca6, .ref ca7, .ref ca8, .ref ca9, .ref ca10, .ref ca11, .ref ca12, .ref ca13, .ref ca14])), (ca12, .inl (G.2.1, 840, .inl (fun k => sJ (xPs k)))), (goq, .inr (3, [.ref go0, .ref go1])), (go0, .inl (G.2.1, 14, .inl (fun k => sJ (gPr k))))])) := by
  refine sx_start (by decide) rfl (fun p e s m below meth c A ls F hr hlk hnm hP hD hS hl => ?_)
  obtain ⟨hx, hb, hml, hown, hts, hK, hE, hA⟩ := id F
  have hown : s.vm.findClass RX1 = some m.cls := hown
  generalize hHe : s.heap = H at hP
  have hS : va_S A s.heap H [] := by rw [← hHe]; exact va_S.rf
  have hl : lv_has ls 5 [(0, .ref caq), (1, .int (nI S)), (2, .ref goq), (3, .int (nI ei))] := hl
  refine lv_iconst (v := 0) hx hb dX1_hasPrints_0 (by decide) ?_
  refine lv_istore (lv' := [(4, .int 0), (0, .ref caq), (1, .int (nI S)), (2, .ref goq), (3, .int (nI ei))]) hx hb dX1_hasPrints_1 hl (by decide) rfl (fun ls hl => ?_)
  refine sx_loop (nL := 5) (fun i => [(caq, .inr (1, [.int (nI caN), .int (nI caW), .ref ca2, .ref ca3, .ref ca4, .ref ca5, .ref ca6, .ref ca7, .ref ca8, .ref ca9, .ref ca10, .ref ca11, .ref ca12, .ref ca13, .ref ca14])), (ca12, .inl (G.2.1, 840, .inl (fun k => sJ (xPs k)))), (goq, .inr (3, [.ref go0, .ref go1])), (go0, .inl (G.2.1, 14, .inl (fun k => sJ (gPr k))))]) (fun i => [(4, .int (nI i)), (0, .ref caq), (1, .int (nI S)), (2, .ref goq), (3, .int (nI ei))]) (fun i => ∀ a, a < i → S.testBit a = true → xPs (ei * 14 + a) = gPr a) 14 (fun a ha => absurd ha (Nat.not_lt_zero a)) hP hD hS (lv_sub hl [0, 1, 2, 3, 4] rfl) (fun i_1 hi_i_1 hI_i_1 H locs ls hP hD hS hl ih_i_1 => ?_)
  have hP : va_P (sx_D G) vwCl [(caq, .inr (1, [.int (nI caN), .int (nI caW), .ref ca2, .ref ca3, .ref ca4, .ref ca5, .ref ca6, .ref ca7, .ref ca8, .ref ca9, .ref ca10, .ref ca11, .ref ca12, .ref ca13, .ref ca14])), (ca12, .inl (G.2.1, 840, .inl (fun k => sJ (xPs k)))), (goq, .inr (3, [.ref go0, .ref go1])), (go0, .inl (G.2.1, 14, .inl (fun k => sJ (gPr k))))] H := hP
  have hD : va_D A [(caq, .inr (1, [.int (nI caN), .int (nI caW), .ref ca2, .ref ca3, .ref ca4, .ref ca5, .ref ca6, .ref ca7, .ref ca8, .ref ca9, .ref ca10, .ref ca11, .ref ca12, .ref ca13, .ref ca14])), (ca12, .inl (G.2.1, 840, .inl (fun k => sJ (xPs k)))), (goq, .inr (3, [.ref go0, .ref go1])), (go0, .inl (G.2.1, 14, .inl (fun k => sJ (gPr k))))] := hD
  have hl : lv_has ls 5 [(4, .int (nI i_1)), (0, .ref caq), (1, .int (nI S)), (2, .ref goq), (3, .int (nI ei))] := hl
  have hI_i_1 : ∀ a, a < i_1 → S.testBit a = true → xPs (ei * 14 + a) = gPr a := hI_i_1
  refine lv_iload hx hb dX1_hasPrints_3 (lv_at hl 0 rfl) ?_
  refine lv_bipush (v := 14) hx hb dX1_hasPrints_5 (by decide) ?_
  refine lv_icmp_ge (tgt := 50) hx hb dX1_hasPrints_7 (by decide) (fun c_2 => ?_) (fun c_2 => ?_)
  · have c_2 : 14 ≤ i_1 := by have h9 : (14 : Int) ≤ ((i_1 : Nat) : Int) := (sJ_le (a := (14 : Int)) (b := ((i_1 : Nat) : Int)) (by omega) (by omega) (by omega) (by omega)).mp c_2; omega
    refine lv_iconst (v := 1) hx hb dX1_hasPrints_50 (by decide) ?_
    exact (sx_iret (v := 1) () hx hb hr (by decide) hlk hP hD hS (sB_t (allB_iff.mpr (fun a ha => decide_eq_true (fun hb => hI_i_1 a (by omega) hb)))) dX1_hasPrints_51 rfl rfl)
  · have c_2 : ¬ (14 ≤ i_1) := by have h9 : ¬ ((14 : Int) ≤ ((i_1 : Nat) : Int)) := fun h => c_2 ((sJ_le (a := (14 : Int)) (b := ((i_1 : Nat) : Int)) (by omega) (by omega) (by omega) (by omega)).mpr h); omega
    refine lv_iload_n hx hb dX1_hasPrints_10 rfl (lv_at hl 2 rfl) ?_
    refine lv_i2l (v := lN S) hx hb dX1_hasPrints_11 (nI_l (n := S) (by omega)) ?_
    refine lv_iload hx hb dX1_hasPrints_12 (lv_at hl 0 rfl) ?_
    have hcut : sx_cut [(caq, .inr (1, [.int (nI caN), .int (nI caW), .ref ca2, .ref ca3, .ref ca4, .ref ca5, .ref ca6, .ref ca7, .ref ca8, .ref ca9, .ref ca10, .ref ca11, .ref ca12, .ref ca13, .ref ca14])), (ca12, .inl (G.2.1, 840, .inl (fun k => sJ (xPs k)))), (goq, .inr (3, [.ref go0, .ref go1])), (go0, .inl (G.2.1, 14, .inl (fun k => sJ (gPr k))))] [] [(caq, .inr (1, [.int (nI caN), .int (nI caW), .ref ca2, .ref ca3, .ref ca4, .ref ca5, .ref ca6, .ref ca7, .ref ca8, .ref ca9, .ref ca10, .ref ca11, .ref ca12, .ref ca13, .ref ca14])), (ca12, .inl (G.2.1, 840, .inl (fun k => sJ (xPs k)))), (goq, .inr (3, [.ref go0, .ref go1])), (go0, .inl (G.2.1, 14, .inl (fun k => sJ (gPr k))))] [] [0, 1, 2, 3] := ⟨rfl, rfl, by decide, by decide, by decide⟩
    refine sx_ki (sx_runSN (As := [.long (lN S), .int (nI i_1)]) (rest := []) F (m_X7_has l G H.size S i_1 (show S < 2 ^ 62 from (by first | assumption | omega)) (show i_1 < 63 from (by first | assumption | omega))) mi_X7_has q498 q504 ⟨⟨Nat.le_of_ble_eq_true rfl, Nat.le_of_ble_eq_true rfl⟩, Nat.le_of_ble_eq_true rfl, Nat.le_of_ble_eq_true rfl⟩ hcut hP hD hS rfl hl.1 rfl (Nat.le_of_ble_eq_true rfl) dX1_hasPrints_14) hcut hP hD hS hA (fun r_5 u_3 H locs w_4 hP hD hS => ?_)
    have hP : va_P (sx_D G) vwCl [(caq, .inr (1, [.int (nI caN), .int (nI caW), .ref ca2, .ref ca3, .ref ca4, .ref ca5, .ref ca6, .ref ca7, .ref ca8, .ref ca9, .ref ca10, .ref ca11, .ref ca12, .ref ca13, .ref ca14])), (ca12, .inl (G.2.1, 840, .inl (fun k => sJ (xPs k)))), (goq, .inr (3, [.ref go0, .ref go1])), (go0, .inl (G.2.1, 14, .inl (fun k => sJ (gPr k))))] H := hP
    have hD : va_D A [(caq, .inr (1, [.int (nI caN), .int (nI caW), .ref ca2, .ref ca3, .ref ca4, .ref ca5, .ref ca6, .ref ca7, .ref ca8, .ref ca9, .ref ca10, .ref ca11, .ref ca12, .ref ca13, .ref ca14])), (ca12, .inl (G.2.1, 840, .inl (fun k => sJ (xPs k)))), (goq, .inr (3, [.ref go0, .ref go1])), (go0, .inl (G.2.1, 14, .inl (fun k => sJ (gPr k))))] := hD
    have w_4 : r_5 = sB (S.testBit i_1) := w_4
    subst w_4
    refine lv_if_eq (tgt := 44) hx hb dX1_hasPrints_17 (by decide) (fun c_6 => ?_) (fun c_6 => ?_)
    · have c_6 := sB_0 c_6
      refine lv_iinc (v := nI (i_1 + 1)) (lv' := [(4, .int (nI (i_1 + 1))), (0, .ref caq), (1, .int (nI S)), (2, .ref goq), (3, .int (nI ei))]) hx hb dX1_hasPrints_44 hl (k := 0) rfl ((congrArg (fun t => nI i_1 + t) (show Int32.ofInt 1 = nI 1 by decide +kernel)).trans (nI_add i_1 1)) (by decide) rfl (fun ls hl => ?_)
      refine lv_goto (tgt := 3) hx hb dX1_hasPrints_47 (by decide) ?_
      have hl : lv_has ls 5 [(4, .int (nI (i_1 + 1))), (0, .ref caq), (1, .int (nI S)), (2, .ref goq), (3, .int (nI ei))] := by exact lv_sub hl [0, 1, 2, 3, 4] rfl
      exact ih_i_1 _ _ _ (by omega) (fun a ha hb => by
        by_cases q : a = i_1
        · subst q; exact absurd (hb.symm.trans c_6) (by decide)
        · exact hI_i_1 a (by omega) hb) hP hD hS hl
    · have c_6 := sB_1 c_6
      refine lv_aload_n hx hb dX1_hasPrints_20 rfl (lv_at hl 1 rfl) ?_
      refine va_get (D := sx_D G) (ci := 1) (v := .ref ca12) (C := RX1) (T := TX1) (N := 15) hx hb hts inX1 hown hK hP 0 rfl rfl 12 (by decide) (hts _ q193) (fun _ h9 => h9) rfl dX1_hasPrints_21 ?_
      refine lv_iload_n hx hb dX1_hasPrints_24 rfl (lv_at hl 4 rfl) ?_
      refine lv_bipush (v := 14) hx hb dX1_hasPrints_25 (by decide) ?_
      refine lv_imul hx hb dX1_hasPrints_27 ?_
      refine sx_topI (pk_mul ei 14) ?_
      refine lv_iload hx hb dX1_hasPrints_28 (lv_at hl 0 rfl) ?_
      refine lv_iadd hx hb dX1_hasPrints_30 ?_
      refine sx_topI (nI_add (ei * 14) i_1) ?_
      refine sx_ild (X := ((ei * 14) + i_1)) hx hb hK hP 1 rfl (by omega) rfl dX1_hasPrints_31 ?_
      have b_7 := h_ps ((ei * 14) + i_1)
      refine lv_aload_n hx hb dX1_hasPrints_32 rfl (lv_at hl 3 rfl) ?_
      refine va_getN (D := sx_D G) (ci := 3) (v := .ref go0) (C := RX3) (T := TX3) (N := 2) hx hb hts inX3 hown hK hP 2 rfl rfl 0 (by decide) (hts _ q239) (fun _ h9 => h9) rfl dX1_hasPrints_33 ?_
      refine lv_iload hx hb dX1_hasPrints_36 (lv_at hl 0 rfl) ?_
      refine sx_ild (X := i_1) hx hb hK hP 3 rfl (by omega) rfl dX1_hasPrints_38 ?_
      have b_8 := h_gp i_1
      refine lv_icmp_eq (tgt := 44) hx hb dX1_hasPrints_39 (by decide) (fun c_9 => ?_) (fun c_9 => ?_)
      · have c_9 : (xPs ((ei * 14) + i_1)) = (gPr i_1) := (sJ_eq (a := (xPs ((ei * 14) + i_1))) (b := (gPr i_1)) (by omega) (by omega) (by omega) (by omega)).mp c_9
        refine lv_iinc (v := nI (i_1 + 1)) (lv' := [(4, .int (nI (i_1 + 1))), (0, .ref caq), (1, .int (nI S)), (2, .ref goq), (3, .int (nI ei))]) hx hb dX1_hasPrints_44 hl (k := 0) rfl ((congrArg (fun t => nI i_1 + t) (show Int32.ofInt 1 = nI 1 by decide +kernel)).trans (nI_add i_1 1)) (by decide) rfl (fun ls hl => ?_)
        refine lv_goto (tgt := 3) hx hb dX1_hasPrints_47 (by decide) ?_
        have hl : lv_has ls 5 [(4, .int (nI (i_1 + 1))), (0, .ref caq), (1, .int (nI S)), (2, .ref goq), (3, .int (nI ei))] := by exact lv_sub hl [0, 1, 2, 3, 4] rfl
        exact ih_i_1 _ _ _ (by omega) (fun a ha hb => by
        by_cases q : a = i_1
        · subst q; exact c_9
        · exact hI_i_1 a (by omega) hb) hP hD hS hl
      · have c_9 : ¬ ((xPs ((ei * 14) + i_1)) = (gPr i_1)) := fun h => c_9 ((sJ_eq (a := (xPs ((ei * 14) + i_1))) (b := (gPr i_1)) (by omega) (by omega) (by omega) (by omega)).mpr h)
        refine lv_iconst (v := 0) hx hb dX1_hasPrints_42 (by decide) ?_
        exact (sx_iret (v := 0) () hx hb hr (by decide) hlk hP hD hS (sB_f (Bool.eq_false_iff.mpr (fun h => c_9 (of_decide_eq_true (allB_iff.mp h i_1 (by omega)) c_6)))) dX1_hasPrints_43 rfl rfl)
set_option maxHeartbeats 4000000 in
set_option maxRecDepth 100000 in
theorem m_X1_hasInputsOfNow (l : Launch) (G : sx_G) (sz : Nat) (caq : Nat) (caN : Nat) (caW : Nat) (ca2 : Nat) (ca3 : Nat) (ca4 : Nat) (ca5 : Nat) (ca6 : Nat) (ca7 : Nat) (ca8 : Nat) (ca9 : Nat) (ca10 : Nat) (ca11 : Nat) (ca12 : Nat) (ca13 : Nat) (ca14 : Nat) (xAc : Nat → Nat) (xCt : Nat → Nat) (xVa : Nat → Nat) (plq : Nat) (pl0 : Nat) (pl1 : Nat) (plN : Nat) (pl3 : Nat) (pl4 : Nat) (pl5 : Nat) (pl6 : Nat) (pl7 : Nat) (pl8 : Nat) (pl9 : Nat) (zCt : Nat → Nat) (zVa : Nat → Nat) (zFi : Nat → Nat) (zSe : Nat → Nat) (zOu : Nat → Nat) (ei : Nat) (h_ac : ∀ k, xAc k < 14) (h_ct : ∀ k, xCt k ≤ 99) (h_va : ∀ k, xVa k ≤ 9) (h_zc : ∀ k, zCt k ≤ 99) (h_zv : ∀ k, zVa k ≤ 9) (h_zf : ∀ k, zFi k < 256) (h_pn : plN ≤ 14) (h_e : ei < 60) : sx_Met l yX1_hasInputsOfNow cX1_hasInputsOfNow 5 (some .boolean) 2 43 0 0 G [.ref caq, .ref plq, .int (nI ei)] [(caq, .inr (1, [.int (nI caN), .int (nI caW), .ref ca2, .ref ca3, .ref ca4, .ref ca5, .ref ca6, .ref ca7, .ref ca8, .ref ca9, .ref ca10, .ref ca11, .ref ca12, .ref ca13, .ref ca14])), (ca2, .inl (G.2.1, 60, .inl (fun k => nI (xAc k)))), (ca10, .inl (G.2.1, 480, .inl (fun k => nI (xCt k)))), (ca11, .inl (G.2.1, 360, .inl (fun k => nI (xVa k)))), (plq, .inr (4, [.ref pl0, .ref pl1, .int (nI plN), .ref pl3, .ref pl4, .ref pl5, .ref pl6, .ref pl7, .ref pl8, .ref pl9])), (pl0, .inl (G.2.1, 8, .inl (fun k => nI (zCt k)))), (pl1, .inl (G.2.1, 6, .inl (fun k => nI (zVa k)))), (pl3, .inl (G.2.1, 14, .inl (fun k => nI (zFi k)))), (pl5, .inl (G.2.1, 14, .inl (fun k => nI (zSe k)))), (pl6, .inl (G.2.1, 14, .inl (fun k => nI (zOu k))))] sz (sx_Qi G (fun (r : Int32) (u : Unit) => r = sB (decide (inpP xAc xCt xVa zFi zCt zVa zSe zOu plN ei))) (fun (u : Unit) => [(caq, .inr (1, [.int (nI caN), .int (nI caW), .ref ca2, .ref ca3, .ref ca4, .ref ca5, .ref ca6, .ref ca7, .ref ca8, .ref ca9, .ref ca10, .ref ca11, .ref ca12, .ref ca13, .ref ca14])), (ca2, .inl (G.2.1, 60, .inl (fun k => nI (xAc k)))), (ca10, .inl (G.2.1, 480, .inl (fun k => nI (xCt k)))), (ca11, .inl (G.2.1, 360, .inl (fun k => nI (xVa k)))), (plq, .inr (4, [.ref pl0, .ref pl1, .int (nI plN), .ref pl3, .ref pl4, .ref pl5, .ref pl6, .ref pl7, .ref pl8, .ref pl9])), (pl0, .inl (G.2.1, 8, .inl (fun k => nI (zCt k)))), (pl1, .inl (G.2.1, 6, .inl (fun k => nI (zVa k)))), (pl3, .inl (G.2.1, 14, .inl (fun k => nI (zFi k)))), (pl5, .inl (G.2.1, 14, .inl (fun k => nI (zSe k)))), (pl6, .inl (G.2.1, 14, .inl (fun k => nI (zOu k))))])) := by
  refine sx_start (by decide) rfl (fun p e s m below meth c A ls F hr hlk hnm hP hD hS hl => ?_)
  obtain ⟨hx, hb, hml, hown, hts, hK, hE, hA⟩ := id F
  have hown : s.vm.findClass RX1 = some m.cls := hown
  generalize hHe : s.heap = H at hP
  have hS : va_S A s.heap H [] := by rw [← hHe]; exact va_S.rf
  have hl : lv_has ls 5 [(0, .ref caq), (1, .ref plq), (2, .int (nI ei))] := hl
  refine lv_aload_n hx hb dX1_hasInputsOfNow_0 rfl (lv_at hl 0 rfl) ?_
  refine va_get (D := sx_D G) (ci := 1) (v := .ref ca2) (C := RX1) (T := TX1) (N := 15) hx hb hts inX1 hown hK hP 0 rfl rfl 2 (by decide) (hts _ q169) (fun _ h9 => h9) rfl dX1_hasInputsOfNow_1 ?_
  refine lv_iload_n hx hb dX1_hasInputsOfNow_4 rfl (lv_at hl 2 rfl) ?_
  refine sx_ild (X := ei) hx hb hK hP 1 rfl (by omega) rfl dX1_hasInputsOfNow_5 ?_
  have b_1 := h_ac ei
  refine lv_istore_n (lv' := [(3, .int (nI (xAc ei))), (0, .ref caq), (1, .ref plq), (2, .int (nI ei))]) hx hb dX1_hasInputsOfNow_6 rfl hl (by decide) rfl (fun ls hl => ?_)
  refine lv_iload_n hx hb dX1_hasInputsOfNow_7 rfl (lv_at hl 0 rfl) ?_
  refine lv_aload_n hx hb dX1_hasInputsOfNow_8 rfl (lv_at hl 2 rfl) ?_
  refine va_getN (D := sx_D G) (ci := 4) (v := .int (nI plN)) (C := RX4) (T := TX4) (N := 10) hx hb hts inX4 hown hK hP 4 rfl rfl 2 (by decide) (hts _ q48) (fun _ h9 => h9) rfl dX1_hasInputsOfNow_9 ?_
  have hcut : sx_cut [(caq, .inr (1, [.int (nI caN), .int (nI caW), .ref ca2, .ref ca3, .ref ca4, .ref ca5, .ref ca6, .ref ca7, .ref ca8, .ref ca9, .ref ca10, .ref ca11, .ref ca12, .ref ca13, .ref ca14])), (ca2, .inl (G.2.1, 60, .inl (fun k => nI (xAc k)))), (ca10, .inl (G.2.1, 480, .inl (fun k => nI (xCt k)))), (ca11, .inl (G.2.1, 360, .inl (fun k => nI (xVa k)))), (plq, .inr (4, [.ref pl0, .ref pl1, .int (nI plN), .ref pl3, .ref pl4, .ref pl5, .ref pl6, .ref pl7, .ref pl8, .ref pl9])), (pl0, .inl (G.2.1, 8, .inl (fun k => nI (zCt k)))), (pl1, .inl (G.2.1, 6, .inl (fun k => nI (zVa k)))), (pl3, .inl (G.2.1, 14, .inl (fun k => nI (zFi k)))), (pl5, .inl (G.2.1, 14, .inl (fun k => nI (zSe k)))), (pl6, .inl (G.2.1, 14, .inl (fun k => nI (zOu k))))] [] [(caq, .inr (1, [.int (nI caN), .int (nI caW), .ref ca2, .ref ca3, .ref ca4, .ref ca5, .ref ca6, .ref ca7, .ref ca8, .ref ca9, .ref ca10, .ref ca11, .ref ca12, .ref ca13, .ref ca14])), (ca2, .inl (G.2.1, 60, .inl (fun k => nI (xAc k)))), (ca10, .inl (G.2.1, 480, .inl (fun k => nI (xCt k)))), (ca11, .inl (G.2.1, 360, .inl (fun k => nI (xVa k)))), (plq, .inr (4, [.ref pl0, .ref pl1, .int (nI plN), .ref pl3, .ref pl4, .ref pl5, .ref pl6, .ref pl7, .ref pl8, .ref pl9])), (pl0, .inl (G.2.1, 8, .inl (fun k => nI (zCt k)))), (pl1, .inl (G.2.1, 6, .inl (fun k => nI (zVa k)))), (pl3, .inl (G.2.1, 14, .inl (fun k => nI (zFi k)))), (pl5, .inl (G.2.1, 14, .inl (fun k => nI (zSe k)))), (pl6, .inl (G.2.1, 14, .inl (fun k => nI (zOu k))))] [] [0, 1, 2, 3, 4, 5, 6, 7, 8, 9] := ⟨rfl, rfl, by decide, by decide, by decide⟩
  refine sx_ki (sx_runSN (As := [.int (nI (xAc ei)), .int (nI plN)]) (rest := []) F (m_X7_isIndex l G H.size ((xAc ei : Nat) : Int) plN (show -2147483648 ≤ ((xAc ei : Nat) : Int) ∧ ((xAc ei : Nat) : Int) < 2147483648 from (by first | assumption | omega)) (show plN < 2147483648 from (by first | assumption | omega))) mi_X7_isIndex q468 q563 ⟨⟨Nat.le_of_ble_eq_true rfl, Nat.le_of_ble_eq_true rfl⟩, Nat.le_of_ble_eq_true rfl, Nat.le_of_ble_eq_true rfl⟩ hcut hP hD hS rfl hl.1 rfl (Nat.le_of_ble_eq_true rfl) dX1_hasInputsOfNow_12) hcut hP hD hS hA (fun r_4 u_2 H locs w_3 hP hD hS => ?_)
  have hP : va_P (sx_D G) vwCl [(caq, .inr (1, [.int (nI caN), .int (nI caW), .ref ca2, .ref ca3, .ref ca4, .ref ca5, .ref ca6, .ref ca7, .ref ca8, .ref ca9, .ref ca10, .ref ca11, .ref ca12, .ref ca13, .ref ca14])), (ca2, .inl (G.2.1, 60, .inl (fun k => nI (xAc k)))), (ca10, .inl (G.2.1, 480, .inl (fun k => nI (xCt k)))), (ca11, .inl (G.2.1, 360, .inl (fun k => nI (xVa k)))), (plq, .inr (4, [.ref pl0, .ref pl1, .int (nI plN), .ref pl3, .ref pl4, .ref pl5, .ref pl6, .ref pl7, .ref pl8, .ref pl9])), (pl0, .inl (G.2.1, 8, .inl (fun k => nI (zCt k)))), (pl1, .inl (G.2.1, 6, .inl (fun k => nI (zVa k)))), (pl3, .inl (G.2.1, 14, .inl (fun k => nI (zFi k)))), (pl5, .inl (G.2.1, 14, .inl (fun k => nI (zSe k)))), (pl6, .inl (G.2.1, 14, .inl (fun k => nI (zOu k))))] H := hP
  have hD : va_D A [(caq, .inr (1, [.int (nI caN), .int (nI caW), .ref ca2, .ref ca3, .ref ca4, .ref ca5, .ref ca6, .ref ca7, .ref ca8, .ref ca9, .ref ca10, .ref ca11, .ref ca12, .ref ca13, .ref ca14])), (ca2, .inl (G.2.1, 60, .inl (fun k => nI (xAc k)))), (ca10, .inl (G.2.1, 480, .inl (fun k => nI (xCt k)))), (ca11, .inl (G.2.1, 360, .inl (fun k => nI (xVa k)))), (plq, .inr (4, [.ref pl0, .ref pl1, .int (nI plN), .ref pl3, .ref pl4, .ref pl5, .ref pl6, .ref pl7, .ref pl8, .ref pl9])), (pl0, .inl (G.2.1, 8, .inl (fun k => nI (zCt k)))), (pl1, .inl (G.2.1, 6, .inl (fun k => nI (zVa k)))), (pl3, .inl (G.2.1, 14, .inl (fun k => nI (zFi k)))), (pl5, .inl (G.2.1, 14, .inl (fun k => nI (zSe k)))), (pl6, .inl (G.2.1, 14, .inl (fun k => nI (zOu k))))] := hD
  have w_3 : r_4 = sB (decide (0 ≤ ((xAc ei : Nat) : Int) ∧ ((xAc ei : Nat) : Int) < (plN : Int))) := w_3
  subst w_3
  refine lv_if_ne (tgt := 20) hx hb dX1_hasInputsOfNow_15 (by decide) (fun c_5 => ?_) (fun c_5 => ?_)
  · have c_5 := of_decide_eq_true (sB_1 c_5)
    refine lv_iconst (v := 0) hx hb dX1_hasInputsOfNow_20 (by decide) ?_
    refine lv_istore (lv' := [(4, .int 0), (3, .int (nI (xAc ei))), (0, .ref caq), (1, .ref plq), (2, .int (nI ei))]) hx hb dX1_hasInputsOfNow_21 hl (by decide) rfl (fun ls hl => ?_)
    refine sx_loop (nL := 5) (fun i => [(caq, .inr (1, [.int (nI caN), .int (nI caW), .ref ca2, .ref ca3, .ref ca4, .ref ca5, .ref ca6, .ref ca7, .ref ca8, .ref ca9, .ref ca10, .ref ca11, .ref ca12, .ref ca13, .ref ca14])), (ca2, .inl (G.2.1, 60, .inl (fun k => nI (xAc k)))), (ca10, .inl (G.2.1, 480, .inl (fun k => nI (xCt k)))), (ca11, .inl (G.2.1, 360, .inl (fun k => nI (xVa k)))), (plq, .inr (4, [.ref pl0, .ref pl1, .int (nI plN), .ref pl3, .ref pl4, .ref pl5, .ref pl6, .ref pl7, .ref pl8, .ref pl9])), (pl0, .inl (G.2.1, 8, .inl (fun k => nI (zCt k)))), (pl1, .inl (G.2.1, 6, .inl (fun k => nI (zVa k)))), (pl3, .inl (G.2.1, 14, .inl (fun k => nI (zFi k)))), (pl5, .inl (G.2.1, 14, .inl (fun k => nI (zSe k)))), (pl6, .inl (G.2.1, 14, .inl (fun k => nI (zOu k))))]) (fun i => [(4, .int (nI i)), (3, .int (nI (xAc ei))), (0, .ref caq), (1, .ref plq), (2, .int (nI ei))]) (fun i => ∀ f, f < i → (zFi (xAc ei)).testBit f = true → xCt (ei * 8 + f) = zCt f) 8 (fun a ha => absurd ha (Nat.not_lt_zero a)) hP hD hS (lv_sub hl [0, 1, 2, 3, 4] rfl) (fun i_6 hi_i_6 hI_i_6 H locs ls hP hD hS hl ih_i_6 => ?_)
    have hP : va_P (sx_D G) vwCl [(caq, .inr (1, [.int (nI caN), .int (nI caW), .ref ca2, .ref ca3, .ref ca4, .ref ca5, .ref ca6, .ref ca7, .ref ca8, .ref ca9, .ref ca10, .ref ca11, .ref ca12, .ref ca13, .ref ca14])), (ca2, .inl (G.2.1, 60, .inl (fun k => nI (xAc k)))), (ca10, .inl (G.2.1, 480, .inl (fun k => nI (xCt k)))), (ca11, .inl (G.2.1, 360, .inl (fun k => nI (xVa k)))), (plq, .inr (4, [.ref pl0, .ref pl1, .int (nI plN), .ref pl3, .ref pl4, .ref pl5, .ref pl6, .ref pl7, .ref pl8, .ref pl9])), (pl0, .inl (G.2.1, 8, .inl (fun k => nI (zCt k)))), (pl1, .inl (G.2.1, 6, .inl (fun k => nI (zVa k)))), (pl3, .inl (G.2.1, 14, .inl (fun k => nI (zFi k)))), (pl5, .inl (G.2.1, 14, .inl (fun k => nI (zSe k)))), (pl6, .inl (G.2.1, 14, .inl (fun k => nI (zOu k))))] H := hP
    have hD : va_D A [(caq, .inr (1, [.int (nI caN), .int (nI caW), .ref ca2, .ref ca3, .ref ca4, .ref ca5, .ref ca6, .ref ca7, .ref ca8, .ref ca9, .ref ca10, .ref ca11, .ref ca12, .ref ca13, .ref ca14])), (ca2, .inl (G.2.1, 60, .inl (fun k => nI (xAc k)))), (ca10, .inl (G.2.1, 480, .inl (fun k => nI (xCt k)))), (ca11, .inl (G.2.1, 360, .inl (fun k => nI (xVa k)))), (plq, .inr (4, [.ref pl0, .ref pl1, .int (nI plN), .ref pl3, .ref pl4, .ref pl5, .ref pl6, .ref pl7, .ref pl8, .ref pl9])), (pl0, .inl (G.2.1, 8, .inl (fun k => nI (zCt k)))), (pl1, .inl (G.2.1, 6, .inl (fun k => nI (zVa k)))), (pl3, .inl (G.2.1, 14, .inl (fun k => nI (zFi k)))), (pl5, .inl (G.2.1, 14, .inl (fun k => nI (zSe k)))), (pl6, .inl (G.2.1, 14, .inl (fun k => nI (zOu k))))] := hD
    have hl : lv_has ls 5 [(4, .int (nI i_6)), (3, .int (nI (xAc ei))), (0, .ref caq), (1, .ref plq), (2, .int (nI ei))] := hl
    have hI_i_6 : ∀ f, f < i_6 → (zFi (xAc ei)).testBit f = true → xCt (ei * 8 + f) = zCt f := hI_i_6
    refine lv_iload hx hb dX1_hasInputsOfNow_23 (lv_at hl 0 rfl) ?_
    refine lv_bipush (v := 8) hx hb dX1_hasInputsOfNow_25 (by decide) ?_
    refine lv_icmp_ge (tgt := 75) hx hb dX1_hasInputsOfNow_27 (by decide) (fun c_7 => ?_) (fun c_7 => ?_)
    · have c_7 : 8 ≤ i_6 := by have h9 : (8 : Int) ≤ ((i_6 : Nat) : Int) := (sJ_le (a := (8 : Int)) (b := ((i_6 : Nat) : Int)) (by omega) (by omega) (by omega) (by omega)).mp c_7; omega
      refine lv_aload_n hx hb dX1_hasInputsOfNow_75 rfl (lv_at hl 2 rfl) ?_
      refine lv_aload_n hx hb dX1_hasInputsOfNow_76 rfl (lv_at hl 3 rfl) ?_
      refine lv_iload_n hx hb dX1_hasInputsOfNow_77 rfl (lv_at hl 4 rfl) ?_
      have hcut : sx_cut [(caq, .inr (1, [.int (nI caN), .int (nI caW), .ref ca2, .ref ca3, .ref ca4, .ref ca5, .ref ca6, .ref ca7, .ref ca8, .ref ca9, .ref ca10, .ref ca11, .ref ca12, .ref ca13, .ref ca14])), (ca2, .inl (G.2.1, 60, .inl (fun k => nI (xAc k)))), (ca10, .inl (G.2.1, 480, .inl (fun k => nI (xCt k)))), (ca11, .inl (G.2.1, 360, .inl (fun k => nI (xVa k)))), (plq, .inr (4, [.ref pl0, .ref pl1, .int (nI plN), .ref pl3, .ref pl4, .ref pl5, .ref pl6, .ref pl7, .ref pl8, .ref pl9])), (pl0, .inl (G.2.1, 8, .inl (fun k => nI (zCt k)))), (pl1, .inl (G.2.1, 6, .inl (fun k => nI (zVa k)))), (pl3, .inl (G.2.1, 14, .inl (fun k => nI (zFi k)))), (pl5, .inl (G.2.1, 14, .inl (fun k => nI (zSe k)))), (pl6, .inl (G.2.1, 14, .inl (fun k => nI (zOu k))))] [(caq, .inr (1, [.int (nI caN), .int (nI caW), .ref ca2, .ref ca3, .ref ca4, .ref ca5, .ref ca6, .ref ca7, .ref ca8, .ref ca9, .ref ca10, .ref ca11, .ref ca12, .ref ca13, .ref ca14])), (ca11, .inl (G.2.1, 360, .inl (fun k => nI (xVa k)))), (plq, .inr (4, [.ref pl0, .ref pl1, .int (nI plN), .ref pl3, .ref pl4, .ref pl5, .ref pl6, .ref pl7, .ref pl8, .ref pl9])), (pl1, .inl (G.2.1, 6, .inl (fun k => nI (zVa k))))] [(ca2, .inl (G.2.1, 60, .inl (fun k => nI (xAc k)))), (ca10, .inl (G.2.1, 480, .inl (fun k => nI (xCt k)))), (pl0, .inl (G.2.1, 8, .inl (fun k => nI (zCt k)))), (pl3, .inl (G.2.1, 14, .inl (fun k => nI (zFi k)))), (pl5, .inl (G.2.1, 14, .inl (fun k => nI (zSe k)))), (pl6, .inl (G.2.1, 14, .inl (fun k => nI (zOu k))))] [0, 3, 4, 6] [1, 2, 5, 7, 8, 9] := ⟨rfl, rfl, by decide, by decide, by decide⟩
      refine sx_ki (sx_runV (As := [.ref plq, .int (nI ei)]) (rest := []) F (m_X1_changedSettings l G H.size caq caN caW ca2 ca3 ca4 ca5 ca6 ca7 ca8 ca9 ca10 ca11 ca12 ca13 ca14 xVa plq pl0 pl1 plN pl3 pl4 pl5 pl6 pl7 pl8 pl9 zVa ei (show ∀ k, xVa k ≤ 9 from (by first | assumption | omega)) (show ∀ k, zVa k ≤ 9 from (by first | assumption | omega)) (show ei < 60 from (by first | assumption | omega))) mi_X1_changedSettings q565 qs_X1_changedSettings q564 ⟨⟨Nat.le_of_ble_eq_true rfl, Nat.le_of_ble_eq_true rfl⟩, Nat.le_of_ble_eq_true rfl, Nat.le_of_ble_eq_true rfl⟩ hcut hP hD hS 0 1 rfl rfl rfl hl.1 rfl (Nat.le_of_ble_eq_true rfl) dX1_hasInputsOfNow_78) hcut hP hD hS hA (fun r_10 u_8 H locs w_9 hP hD hS => ?_)
      have hP : va_P (sx_D G) vwCl [(ca2, .inl (G.2.1, 60, .inl (fun k => nI (xAc k)))), (ca10, .inl (G.2.1, 480, .inl (fun k => nI (xCt k)))), (pl0, .inl (G.2.1, 8, .inl (fun k => nI (zCt k)))), (pl3, .inl (G.2.1, 14, .inl (fun k => nI (zFi k)))), (pl5, .inl (G.2.1, 14, .inl (fun k => nI (zSe k)))), (pl6, .inl (G.2.1, 14, .inl (fun k => nI (zOu k)))), (caq, .inr (1, [.int (nI caN), .int (nI caW), .ref ca2, .ref ca3, .ref ca4, .ref ca5, .ref ca6, .ref ca7, .ref ca8, .ref ca9, .ref ca10, .ref ca11, .ref ca12, .ref ca13, .ref ca14])), (ca11, .inl (G.2.1, 360, .inl (fun k => nI (xVa k)))), (plq, .inr (4, [.ref pl0, .ref pl1, .int (nI plN), .ref pl3, .ref pl4, .ref pl5, .ref pl6, .ref pl7, .ref pl8, .ref pl9])), (pl1, .inl (G.2.1, 6, .inl (fun k => nI (zVa k))))] H := hP
      have hD : va_D A [(ca2, .inl (G.2.1, 60, .inl (fun k => nI (xAc k)))), (ca10, .inl (G.2.1, 480, .inl (fun k => nI (xCt k)))), (pl0, .inl (G.2.1, 8, .inl (fun k => nI (zCt k)))), (pl3, .inl (G.2.1, 14, .inl (fun k => nI (zFi k)))), (pl5, .inl (G.2.1, 14, .inl (fun k => nI (zSe k)))), (pl6, .inl (G.2.1, 14, .inl (fun k => nI (zOu k)))), (caq, .inr (1, [.int (nI caN), .int (nI caW), .ref ca2, .ref ca3, .ref ca4, .ref ca5, .ref ca6, .ref ca7, .ref ca8, .ref ca9, .ref ca10, .ref ca11, .ref ca12, .ref ca13, .ref ca14])), (ca11, .inl (G.2.1, 360, .inl (fun k => nI (xVa k)))), (plq, .inr (4, [.ref pl0, .ref pl1, .int (nI plN), .ref pl3, .ref pl4, .ref pl5, .ref pl6, .ref pl7, .ref pl8, .ref pl9])), (pl1, .inl (G.2.1, 6, .inl (fun k => nI (zVa k))))] := hD
      have w_9 : r_10 = nI (chgN xVa zVa ei 6) := w_9
      subst w_9
      refine lv_aload_n hx hb dX1_hasInputsOfNow_81 rfl (lv_at hl 3 rfl) ?_
      refine va_getN (D := sx_D G) (ci := 4) (v := .ref pl5) (C := RX4) (T := TX4) (N := 10) hx hb hts inX4 hown hK hP 8 rfl rfl 5 (by decide) (hts _ q57) (fun _ h9 => h9) rfl dX1_hasInputsOfNow_82 ?_
      refine lv_iload_n hx hb dX1_hasInputsOfNow_85 rfl (lv_at hl 1 rfl) ?_
      refine sx_ild (X := (xAc ei)) hx hb hK hP 4 rfl (by omega) rfl dX1_hasInputsOfNow_86 ?_
      refine lv_iand hx hb dX1_hasInputsOfNow_87 ?_
      refine sx_topI (sx_and (chgN xVa zVa ei 6) (zSe (xAc ei))) ?_
      refine lv_aload_n hx hb dX1_hasInputsOfNow_88 rfl (lv_at hl 3 rfl) ?_
      refine va_getN (D := sx_D G) (ci := 4) (v := .ref pl6) (C := RX4) (T := TX4) (N := 10) hx hb hts inX4 hown hK hP 8 rfl rfl 6 (by decide) (hts _ q61) (fun _ h9 => h9) rfl dX1_hasInputsOfNow_89 ?_
      refine lv_iload_n hx hb dX1_hasInputsOfNow_92 rfl (lv_at hl 1 rfl) ?_
      refine sx_ild (X := (xAc ei)) hx hb hK hP 5 rfl (by omega) rfl dX1_hasInputsOfNow_93 ?_
      refine lv_iconst (v := (-1)) hx hb dX1_hasInputsOfNow_94 (by decide) ?_
      refine sx_topI (show ((-1) : Int32) = sJ ((-1)) by decide +kernel) ?_
      refine lv_ixor hx hb dX1_hasInputsOfNow_95 ?_
      refine lv_iand hx hb dX1_hasInputsOfNow_96 ?_
      refine sx_topI (sx_andm ((chgN xVa zVa ei 6) &&& (zSe (xAc ei))) (zOu (xAc ei))) ?_
      refine lv_if_ne (tgt := 104) hx hb dX1_hasInputsOfNow_97 (by decide) (fun c_11 => ?_) (fun c_11 => ?_)
      · have c_11 : ¬ ((sDf ((chgN xVa zVa ei 6) &&& (zSe (xAc ei))) (zOu (xAc ei))) = 0) := by have h9 : ¬ (((sDf ((chgN xVa zVa ei 6) &&& (zSe (xAc ei))) (zOu (xAc ei)) : Nat) : Int) = (0 : Int)) := fun h => c_11 ((sJ_eq (a := ((sDf ((chgN xVa zVa ei 6) &&& (zSe (xAc ei))) (zOu (xAc ei)) : Nat) : Int)) (b := (0 : Int)) (by have h7 := @sDf_b (chgN xVa zVa ei 6 &&& zSe (xAc ei)) (zOu (xAc ei)) 6 (and_b (chgN_b xVa zVa ei 6)); omega) (by have h7 := @sDf_b (chgN xVa zVa ei 6 &&& zSe (xAc ei)) (zOu (xAc ei)) 6 (and_b (chgN_b xVa zVa ei 6)); omega) (by have h7 := @sDf_b (chgN xVa zVa ei 6 &&& zSe (xAc ei)) (zOu (xAc ei)) 6 (and_b (chgN_b xVa zVa ei 6)); omega) (by have h7 := @sDf_b (chgN xVa zVa ei 6 &&& zSe (xAc ei)) (zOu (xAc ei)) 6 (and_b (chgN_b xVa zVa ei 6)); omega)).mpr h); omega
        refine lv_iconst (v := 0) hx hb dX1_hasInputsOfNow_104 (by decide) ?_
        have hP := hP.sub (ws' := [(caq, .inr (1, [.int (nI caN), .int (nI caW), .ref ca2, .ref ca3, .ref ca4, .ref ca5, .ref ca6, .ref ca7, .ref ca8, .ref ca9, .ref ca10, .ref ca11, .ref ca12, .ref ca13, .ref ca14])), (ca2, .inl (G.2.1, 60, .inl (fun k => nI (xAc k)))), (ca10, .inl (G.2.1, 480, .inl (fun k => nI (xCt k)))), (ca11, .inl (G.2.1, 360, .inl (fun k => nI (xVa k)))), (plq, .inr (4, [.ref pl0, .ref pl1, .int (nI plN), .ref pl3, .ref pl4, .ref pl5, .ref pl6, .ref pl7, .ref pl8, .ref pl9])), (pl0, .inl (G.2.1, 8, .inl (fun k => nI (zCt k)))), (pl1, .inl (G.2.1, 6, .inl (fun k => nI (zVa k)))), (pl3, .inl (G.2.1, 14, .inl (fun k => nI (zFi k)))), (pl5, .inl (G.2.1, 14, .inl (fun k => nI (zSe k)))), (pl6, .inl (G.2.1, 14, .inl (fun k => nI (zOu k))))]) [6, 0, 1, 7, 8, 2, 9, 3, 4, 5] rfl
        have hD := hD.sub (ws' := [(caq, .inr (1, [.int (nI caN), .int (nI caW), .ref ca2, .ref ca3, .ref ca4, .ref ca5, .ref ca6, .ref ca7, .ref ca8, .ref ca9, .ref ca10, .ref ca11, .ref ca12, .ref ca13, .ref ca14])), (ca2, .inl (G.2.1, 60, .inl (fun k => nI (xAc k)))), (ca10, .inl (G.2.1, 480, .inl (fun k => nI (xCt k)))), (ca11, .inl (G.2.1, 360, .inl (fun k => nI (xVa k)))), (plq, .inr (4, [.ref pl0, .ref pl1, .int (nI plN), .ref pl3, .ref pl4, .ref pl5, .ref pl6, .ref pl7, .ref pl8, .ref pl9])), (pl0, .inl (G.2.1, 8, .inl (fun k => nI (zCt k)))), (pl1, .inl (G.2.1, 6, .inl (fun k => nI (zVa k)))), (pl3, .inl (G.2.1, 14, .inl (fun k => nI (zFi k)))), (pl5, .inl (G.2.1, 14, .inl (fun k => nI (zSe k)))), (pl6, .inl (G.2.1, 14, .inl (fun k => nI (zOu k))))]) [6, 0, 1, 7, 8, 2, 9, 3, 4, 5] (by decide) rfl
        exact (sx_iret (v := 0) () hx hb hr (by decide) hlk hP hD hS (sB_n (fun h => c_11 h.2.2)) dX1_hasInputsOfNow_105 rfl rfl)
      · have c_11 : (sDf ((chgN xVa zVa ei 6) &&& (zSe (xAc ei))) (zOu (xAc ei))) = 0 := by have h9 : ((sDf ((chgN xVa zVa ei 6) &&& (zSe (xAc ei))) (zOu (xAc ei)) : Nat) : Int) = (0 : Int) := (sJ_eq (a := ((sDf ((chgN xVa zVa ei 6) &&& (zSe (xAc ei))) (zOu (xAc ei)) : Nat) : Int)) (b := (0 : Int)) (by have h7 := @sDf_b (chgN xVa zVa ei 6 &&& zSe (xAc ei)) (zOu (xAc ei)) 6 (and_b (chgN_b xVa zVa ei 6)); omega) (by have h7 := @sDf_b (chgN xVa zVa ei 6 &&& zSe (xAc ei)) (zOu (xAc ei)) 6 (and_b (chgN_b xVa zVa ei 6)); omega) (by have h7 := @sDf_b (chgN xVa zVa ei 6 &&& zSe (xAc ei)) (zOu (xAc ei)) 6 (and_b (chgN_b xVa zVa ei 6)); omega) (by have h7 := @sDf_b (chgN xVa zVa ei 6 &&& zSe (xAc ei)) (zOu (xAc ei)) 6 (and_b (chgN_b xVa zVa ei 6)); omega)).mp c_11; omega
        refine lv_iconst (v := 1) hx hb dX1_hasInputsOfNow_100 (by decide) ?_
        refine lv_goto (tgt := 105) hx hb dX1_hasInputsOfNow_101 (by decide) ?_
        have hP := hP.sub (ws' := [(caq, .inr (1, [.int (nI caN), .int (nI caW), .ref ca2, .ref ca3, .ref ca4, .ref ca5, .ref ca6, .ref ca7, .ref ca8, .ref ca9, .ref ca10, .ref ca11, .ref ca12, .ref ca13, .ref ca14])), (ca2, .inl (G.2.1, 60, .inl (fun k => nI (xAc k)))), (ca10, .inl (G.2.1, 480, .inl (fun k => nI (xCt k)))), (ca11, .inl (G.2.1, 360, .inl (fun k => nI (xVa k)))), (plq, .inr (4, [.ref pl0, .ref pl1, .int (nI plN), .ref pl3, .ref pl4, .ref pl5, .ref pl6, .ref pl7, .ref pl8, .ref pl9])), (pl0, .inl (G.2.1, 8, .inl (fun k => nI (zCt k)))), (pl1, .inl (G.2.1, 6, .inl (fun k => nI (zVa k)))), (pl3, .inl (G.2.1, 14, .inl (fun k => nI (zFi k)))), (pl5, .inl (G.2.1, 14, .inl (fun k => nI (zSe k)))), (pl6, .inl (G.2.1, 14, .inl (fun k => nI (zOu k))))]) [6, 0, 1, 7, 8, 2, 9, 3, 4, 5] rfl
        have hD := hD.sub (ws' := [(caq, .inr (1, [.int (nI caN), .int (nI caW), .ref ca2, .ref ca3, .ref ca4, .ref ca5, .ref ca6, .ref ca7, .ref ca8, .ref ca9, .ref ca10, .ref ca11, .ref ca12, .ref ca13, .ref ca14])), (ca2, .inl (G.2.1, 60, .inl (fun k => nI (xAc k)))), (ca10, .inl (G.2.1, 480, .inl (fun k => nI (xCt k)))), (ca11, .inl (G.2.1, 360, .inl (fun k => nI (xVa k)))), (plq, .inr (4, [.ref pl0, .ref pl1, .int (nI plN), .ref pl3, .ref pl4, .ref pl5, .ref pl6, .ref pl7, .ref pl8, .ref pl9])), (pl0, .inl (G.2.1, 8, .inl (fun k => nI (zCt k)))), (pl1, .inl (G.2.1, 6, .inl (fun k => nI (zVa k)))), (pl3, .inl (G.2.1, 14, .inl (fun k => nI (zFi k)))), (pl5, .inl (G.2.1, 14, .inl (fun k => nI (zSe k)))), (pl6, .inl (G.2.1, 14, .inl (fun k => nI (zOu k))))]) [6, 0, 1, 7, 8, 2, 9, 3, 4, 5] (by decide) rfl
        exact (sx_iret (v := 1) () hx hb hr (by decide) hlk hP hD hS (sB_p ⟨by omega, allB_iff.mpr (fun f hf => decide_eq_true (fun hb => hI_i_6 f (by omega) hb)), c_11⟩) dX1_hasInputsOfNow_105 rfl rfl)
    · have c_7 : ¬ (8 ≤ i_6) := by have h9 : ¬ ((8 : Int) ≤ ((i_6 : Nat) : Int)) := fun h => c_7 ((sJ_le (a := (8 : Int)) (b := ((i_6 : Nat) : Int)) (by omega) (by omega) (by omega) (by omega)).mpr h); omega
      refine lv_aload_n hx hb dX1_hasInputsOfNow_30 rfl (lv_at hl 3 rfl) ?_
      refine va_getN (D := sx_D G) (ci := 4) (v := .ref pl3) (C := RX4) (T := TX4) (N := 10) hx hb hts inX4 hown hK hP 4 rfl rfl 3 (by decide) (hts _ q51) (fun _ h9 => h9) rfl dX1_hasInputsOfNow_31 ?_
      refine lv_iload_n hx hb dX1_hasInputsOfNow_34 rfl (lv_at hl 1 rfl) ?_
      refine sx_ild (X := (xAc ei)) hx hb hK hP 7 rfl (by omega) rfl dX1_hasInputsOfNow_35 ?_
      have b_12 := h_zf (xAc ei)
      refine lv_i2l (v := lN (zFi (xAc ei))) hx hb dX1_hasInputsOfNow_36 (nI_l (n := (zFi (xAc ei))) (by omega)) ?_
      refine lv_iload hx hb dX1_hasInputsOfNow_37 (lv_at hl 0 rfl) ?_
      have hcut : sx_cut [(caq, .inr (1, [.int (nI caN), .int (nI caW), .ref ca2, .ref ca3, .ref ca4, .ref ca5, .ref ca6, .ref ca7, .ref ca8, .ref ca9, .ref ca10, .ref ca11, .ref ca12, .ref ca13, .ref ca14])), (ca2, .inl (G.2.1, 60, .inl (fun k => nI (xAc k)))), (ca10, .inl (G.2.1, 480, .inl (fun k => nI (xCt k)))), (ca11, .inl (G.2.1, 360, .inl (fun k => nI (xVa k)))), (plq, .inr (4, [.ref pl0, .ref pl1, .int (nI plN), .ref pl3, .ref pl4, .ref pl5, .ref pl6, .ref pl7, .ref pl8, .ref pl9])), (pl0, .inl (G.2.1, 8, .inl (fun k => nI (zCt k)))), (pl1, .inl (G.2.1, 6, .inl (fun k => nI (zVa k)))), (pl3, .inl (G.2.1, 14, .inl (fun k => nI (zFi k)))), (pl5, .inl (G.2.1, 14, .inl (fun k => nI (zSe k)))), (pl6, .inl (G.2.1, 14, .inl (fun k => nI (zOu k))))] [] [(caq, .inr (1, [.int (nI caN), .int (nI caW), .ref ca2, .ref ca3, .ref ca4, .ref ca5, .ref ca6, .ref ca7, .ref ca8, .ref ca9, .ref ca10, .ref ca11, .ref ca12, .ref ca13, .ref ca14])), (ca2, .inl (G.2.1, 60, .inl (fun k => nI (xAc k)))), (ca10, .inl (G.2.1, 480, .inl (fun k => nI (xCt k)))), (ca11, .inl (G.2.1, 360, .inl (fun k => nI (xVa k)))), (plq, .inr (4, [.ref pl0, .ref pl1, .int (nI plN), .ref pl3, .ref pl4, .ref pl5, .ref pl6, .ref pl7, .ref pl8, .ref pl9])), (pl0, .inl (G.2.1, 8, .inl (fun k => nI (zCt k)))), (pl1, .inl (G.2.1, 6, .inl (fun k => nI (zVa k)))), (pl3, .inl (G.2.1, 14, .inl (fun k => nI (zFi k)))), (pl5, .inl (G.2.1, 14, .inl (fun k => nI (zSe k)))), (pl6, .inl (G.2.1, 14, .inl (fun k => nI (zOu k))))] [] [0, 1, 2, 3, 4, 5, 6, 7, 8, 9] := ⟨rfl, rfl, by decide, by decide, by decide⟩
      refine sx_ki (sx_runSN (As := [.long (lN (zFi (xAc ei))), .int (nI i_6)]) (rest := []) F (m_X7_has l G H.size (zFi (xAc ei)) i_6 (show (zFi (xAc ei)) < 2 ^ 62 from (by first | assumption | omega)) (show i_6 < 63 from (by first | assumption | omega))) mi_X7_has q498 q504 ⟨⟨Nat.le_of_ble_eq_true rfl, Nat.le_of_ble_eq_true rfl⟩, Nat.le_of_ble_eq_true rfl, Nat.le_of_ble_eq_true rfl⟩ hcut hP hD hS rfl hl.1 rfl (Nat.le_of_ble_eq_true rfl) dX1_hasInputsOfNow_39) hcut hP hD hS hA (fun r_15 u_13 H locs w_14 hP hD hS => ?_)
      have hP : va_P (sx_D G) vwCl [(caq, .inr (1, [.int (nI caN), .int (nI caW), .ref ca2, .ref ca3, .ref ca4, .ref ca5, .ref ca6, .ref ca7, .ref ca8, .ref ca9, .ref ca10, .ref ca11, .ref ca12, .ref ca13, .ref ca14])), (ca2, .inl (G.2.1, 60, .inl (fun k => nI (xAc k)))), (ca10, .inl (G.2.1, 480, .inl (fun k => nI (xCt k)))), (ca11, .inl (G.2.1, 360, .inl (fun k => nI (xVa k)))), (plq, .inr (4, [.ref pl0, .ref pl1, .int (nI plN), .ref pl3, .ref pl4, .ref pl5, .ref pl6, .ref pl7, .ref pl8, .ref pl9])), (pl0, .inl (G.2.1, 8, .inl (fun k => nI (zCt k)))), (pl1, .inl (G.2.1, 6, .inl (fun k => nI (zVa k)))), (pl3, .inl (G.2.1, 14, .inl (fun k => nI (zFi k)))), (pl5, .inl (G.2.1, 14, .inl (fun k => nI (zSe k)))), (pl6, .inl (G.2.1, 14, .inl (fun k => nI (zOu k))))] H := hP
      have hD : va_D A [(caq, .inr (1, [.int (nI caN), .int (nI caW), .ref ca2, .ref ca3, .ref ca4, .ref ca5, .ref ca6, .ref ca7, .ref ca8, .ref ca9, .ref ca10, .ref ca11, .ref ca12, .ref ca13, .ref ca14])), (ca2, .inl (G.2.1, 60, .inl (fun k => nI (xAc k)))), (ca10, .inl (G.2.1, 480, .inl (fun k => nI (xCt k)))), (ca11, .inl (G.2.1, 360, .inl (fun k => nI (xVa k)))), (plq, .inr (4, [.ref pl0, .ref pl1, .int (nI plN), .ref pl3, .ref pl4, .ref pl5, .ref pl6, .ref pl7, .ref pl8, .ref pl9])), (pl0, .inl (G.2.1, 8, .inl (fun k => nI (zCt k)))), (pl1, .inl (G.2.1, 6, .inl (fun k => nI (zVa k)))), (pl3, .inl (G.2.1, 14, .inl (fun k => nI (zFi k)))), (pl5, .inl (G.2.1, 14, .inl (fun k => nI (zSe k)))), (pl6, .inl (G.2.1, 14, .inl (fun k => nI (zOu k))))] := hD
      have w_14 : r_15 = sB ((zFi (xAc ei)).testBit i_6) := w_14
      subst w_14
      refine lv_if_eq (tgt := 69) hx hb dX1_hasInputsOfNow_42 (by decide) (fun c_16 => ?_) (fun c_16 => ?_)
      · have c_16 := sB_0 c_16
        refine lv_iinc (v := nI (i_6 + 1)) (lv' := [(4, .int (nI (i_6 + 1))), (3, .int (nI (xAc ei))), (0, .ref caq), (1, .ref plq), (2, .int (nI ei))]) hx hb dX1_hasInputsOfNow_69 hl (k := 0) rfl ((congrArg (fun t => nI i_6 + t) (show Int32.ofInt 1 = nI 1 by decide +kernel)).trans (nI_add i_6 1)) (by decide) rfl (fun ls hl => ?_)
        refine lv_goto (tgt := 23) hx hb dX1_hasInputsOfNow_72 (by decide) ?_
        have hl : lv_has ls 5 [(4, .int (nI (i_6 + 1))), (3, .int (nI (xAc ei))), (0, .ref caq), (1, .ref plq), (2, .int (nI ei))] := by exact lv_sub hl [0, 1, 2, 3, 4] rfl
        exact ih_i_6 _ _ _ (by omega) (fun a ha hb => by
        by_cases q : a = i_6
        · subst q; exact absurd (hb.symm.trans c_16) (by decide)
        · exact hI_i_6 a (by omega) hb) hP hD hS hl
      · have c_16 := sB_1 c_16
        refine lv_aload_n hx hb dX1_hasInputsOfNow_45 rfl (lv_at hl 2 rfl) ?_
        refine va_get (D := sx_D G) (ci := 1) (v := .ref ca10) (C := RX1) (T := TX1) (N := 15) hx hb hts inX1 hown hK hP 0 rfl rfl 10 (by decide) (hts _ q191) (fun _ h9 => h9) rfl dX1_hasInputsOfNow_46 ?_
        refine lv_iload_n hx hb dX1_hasInputsOfNow_49 rfl (lv_at hl 4 rfl) ?_
        refine lv_bipush (v := 8) hx hb dX1_hasInputsOfNow_50 (by decide) ?_
        refine lv_imul hx hb dX1_hasInputsOfNow_52 ?_
        refine sx_topI (pk_mul ei 8) ?_
        refine lv_iload hx hb dX1_hasInputsOfNow_53 (lv_at hl 0 rfl) ?_
        refine lv_iadd hx hb dX1_hasInputsOfNow_55 ?_
        refine sx_topI (nI_add (ei * 8) i_6) ?_
        refine sx_ild (X := ((ei * 8) + i_6)) hx hb hK hP 2 rfl (by omega) rfl dX1_hasInputsOfNow_56 ?_
        have b_17 := h_ct ((ei * 8) + i_6)
        refine lv_aload_n hx hb dX1_hasInputsOfNow_57 rfl (lv_at hl 3 rfl) ?_
        refine va_getN (D := sx_D G) (ci := 4) (v := .ref pl0) (C := RX4) (T := TX4) (N := 10) hx hb hts inX4 hown hK hP 4 rfl rfl 0 (by decide) (hts _ q42) (fun _ h9 => h9) rfl dX1_hasInputsOfNow_58 ?_
        refine lv_iload hx hb dX1_hasInputsOfNow_61 (lv_at hl 0 rfl) ?_
        refine sx_ild (X := i_6) hx hb hK hP 5 rfl (by omega) rfl dX1_hasInputsOfNow_63 ?_
        have b_18 := h_zc i_6
        refine lv_icmp_eq (tgt := 69) hx hb dX1_hasInputsOfNow_64 (by decide) (fun c_19 => ?_) (fun c_19 => ?_)
        · have c_19 : (xCt ((ei * 8) + i_6)) = (zCt i_6) := by have h9 : ((xCt ((ei * 8) + i_6) : Nat) : Int) = ((zCt i_6 : Nat) : Int) := (sJ_eq (a := ((xCt ((ei * 8) + i_6) : Nat) : Int)) (b := ((zCt i_6 : Nat) : Int)) (by omega) (by omega) (by omega) (by omega)).mp c_19; omega
          refine lv_iinc (v := nI (i_6 + 1)) (lv' := [(4, .int (nI (i_6 + 1))), (3, .int (nI (xAc ei))), (0, .ref caq), (1, .ref plq), (2, .int (nI ei))]) hx hb dX1_hasInputsOfNow_69 hl (k := 0) rfl ((congrArg (fun t => nI i_6 + t) (show Int32.ofInt 1 = nI 1 by decide +kernel)).trans (nI_add i_6 1)) (by decide) rfl (fun ls hl => ?_)
          refine lv_goto (tgt := 23) hx hb dX1_hasInputsOfNow_72 (by decide) ?_
          have hl : lv_has ls 5 [(4, .int (nI (i_6 + 1))), (3, .int (nI (xAc ei))), (0, .ref caq), (1, .ref plq), (2, .int (nI ei))] := by exact lv_sub hl [0, 1, 2, 3, 4] rfl
          exact ih_i_6 _ _ _ (by omega) (fun a ha hb => by
        by_cases q : a = i_6
        · subst q; exact c_19
        · exact hI_i_6 a (by omega) hb) hP hD hS hl
        · have c_19 : ¬ ((xCt ((ei * 8) + i_6)) = (zCt i_6)) := by have h9 : ¬ (((xCt ((ei * 8) + i_6) : Nat) : Int) = ((zCt i_6 : Nat) : Int)) := fun h => c_19 ((sJ_eq (a := ((xCt ((ei * 8) + i_6) : Nat) : Int)) (b := ((zCt i_6 : Nat) : Int)) (by omega) (by omega) (by omega) (by omega)).mpr h); omega
          refine lv_iconst (v := 0) hx hb dX1_hasInputsOfNow_67 (by decide) ?_
          exact (sx_iret (v := 0) () hx hb hr (by decide) hlk hP hD hS (sB_n (fun h => c_19 (of_decide_eq_true (allB_iff.mp h.2.1 i_6 (by omega)) c_16))) dX1_hasInputsOfNow_68 rfl rfl)
  · have c_5 := of_decide_eq_false (sB_0 c_5)
    refine lv_iconst (v := 0) hx hb dX1_hasInputsOfNow_18 (by decide) ?_
    exact (sx_iret (v := 0) () hx hb hr (by decide) hlk hP hD hS (sB_n (fun h => by have h1 := h.1; omega)) dX1_hasInputsOfNow_19 rfl rfl)
