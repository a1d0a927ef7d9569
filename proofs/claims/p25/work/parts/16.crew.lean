/-! pure words of the plan and the crew -/
theorem weighN_b {S w B : Nat} {f : Nat → Int} : ∀ {n : Nat}, (∀ k, k < n → S.testBit k = true → 0 ≤ f k ∧ f k ≤ B) → 0 ≤ weighN S f w n ∧ weighN S f w n ≤ ((n * (n + w) * B : Nat) : Int)
  | 0, _ => ⟨Int.le_refl _, by simp [weighN]⟩
  | n + 1, h => by
    have ih := weighN_b (n := n) (w := w) (fun k hk => h k (by omega))
    have h2 : n * (n + w) * B + (n + w) * B ≤ (n + 1) * (n + 1 + w) * B := by
      rw [← Nat.add_mul, show n * (n + w) + (n + w) = (n + 1) * (n + w) by rw [Nat.add_mul, Nat.one_mul]]
      exact Nat.mul_le_mul_right _ (Nat.mul_le_mul_left _ (by omega))
    rw [weighN_s]
    by_cases q : S.testBit n = true
    · rw [if_pos q]
      obtain ⟨a1, a2⟩ := h n (by omega) q
      have a3 : 0 ≤ ((n + w : Nat) : Int) * f n := Int.mul_nonneg (Int.natCast_nonneg _) a1
      have a4 : ((n + w : Nat) : Int) * f n ≤ (((n + w) * B : Nat) : Int) := by
        rw [Int.natCast_mul]
        exact Int.mul_le_mul_of_nonneg_left a2 (Int.natCast_nonneg _)
      omega
    · rw [if_neg q]
      omega
def prnZ (zFi zCt zAc zSe zVa : Nat → Nat) (f : Nat → Int) (a : Nat) : Int :=
  (((31 * a : Nat) : Int) + (7 : Int) * weighN (zFi a) (fun k => ((zCt k : Nat) : Int)) 1 8) + (5 : Int) * weighN (zAc a) f 2 14 + (3 : Int) * weighN (zSe a) (fun k => ((zVa k : Nat) : Int)) 1 6
def prnN (zFi zCt zAc zSe zVa : Nat → Nat) (f : Nat → Int) (a : Nat) : Nat := (prnZ zFi zCt zAc zSe zVa f a).toNat % 997
theorem prnN_b (zFi zCt zAc zSe zVa : Nat → Nat) (f : Nat → Int) (a : Nat) : prnN zFi zCt zAc zSe zVa f a ≤ 996 := by
  have := Nat.mod_lt (prnZ zFi zCt zAc zSe zVa f a).toNat (show 997 > 0 by decide)
  unfold prnN
  omega
theorem prnZ_b {zFi zCt zAc zSe zVa : Nat → Nat} {f : Nat → Int} {a : Nat} (ha : a < 14) (hc : ∀ k, zCt k ≤ 99) (hv : ∀ k, zVa k ≤ 9) (hf : ∀ k, (zAc a).testBit k = true → 0 ≤ f k ∧ f k ≤ 996) : 0 ≤ prnZ zFi zCt zAc zSe zVa f a ∧ prnZ zFi zCt zAc zSe zVa f a < 2147483648 := by
  have h1 := weighN_b (S := zFi a) (w := 1) (B := 99) (f := fun k => ((zCt k : Nat) : Int)) (n := 8) (fun k _ _ => ⟨Int.natCast_nonneg _, by have := hc k; omega⟩)
  have h2 := weighN_b (S := zAc a) (w := 2) (B := 996) (f := f) (n := 14) (fun k _ q => by have := hf k q; omega)
  have h3 := weighN_b (S := zSe a) (w := 1) (B := 9) (f := fun k => ((zVa k : Nat) : Int)) (n := 6) (fun k _ _ => ⟨Int.natCast_nonneg _, by have := hv k; omega⟩)
  unfold prnZ
  omega
theorem sJ_rem {z : Int} (h0 : 0 ≤ z) (h1 : z < 2147483648) : sJ z - sJ z / 997 * 997 = nI (z.toNat % 997) := by
  obtain ⟨n, rfl⟩ := Int.eq_ofNat_of_zero_le h0
  exact pk_rem (a := n) (d := 997) (by omega) (by omega) (by omega)
def clnA (zFi zCt zAc zSe zVa cl : Nat → Nat) : Nat → Nat → Nat
  | 0 => cl
  | n + 1 => sU (clnA zFi zCt zAc zSe zVa cl n) n (prnN zFi zCt zAc zSe zVa (fun k => ((clnA zFi zCt zAc zSe zVa cl n k : Nat) : Int)) n)
theorem clnA_b {zFi zCt zAc zSe zVa cl : Nat → Nat} (h : ∀ k, cl k ≤ 996) : ∀ n k, clnA zFi zCt zAc zSe zVa cl n k ≤ 996
  | 0, k => h k
  | n + 1, k => sU_all (P := fun z => z ≤ 996) (clnA_b h n) (prnN_b _ _ _ _ _ _ _) k
def needN (ac : Nat → Nat) (a : Nat) : Nat → Nat
  | 0 => 2 ^ a
  | n + 1 => if (needN ac a n).testBit (a - n) = true then needN ac a n ||| ac (a - n) else needN ac a n
theorem needN_s (ac : Nat → Nat) (a n : Nat) : needN ac a (n + 1) = if (needN ac a n).testBit (a - n) = true then needN ac a n ||| ac (a - n) else needN ac a n := rfl
theorem needN_b {ac : Nat → Nat} {a : Nat} (ha : a < 14) (h : ∀ k, ac k < 2 ^ 14) : ∀ n, needN ac a n < 2 ^ 14
  | 0 => Nat.pow_lt_pow_right (by decide) ha
  | n + 1 => by
    have ih := needN_b ha h n
    rw [needN_s]
    split
    · exact Nat.or_lt_two_pow ih (h _)
    · exact ih
def tchN (fi ac : Nat → Nat) (f : Nat) : Nat → Nat
  | 0 => 0
  | n + 1 => if (fi n).testBit f = true ∨ ¬ ac n &&& tchN fi ac f n = 0 then tchN fi ac f n ||| 2 ^ n else tchN fi ac f n
theorem tchN_s (fi ac : Nat → Nat) (f n : Nat) : tchN fi ac f (n + 1) = if (fi n).testBit f = true ∨ ¬ ac n &&& tchN fi ac f n = 0 then tchN fi ac f n ||| 2 ^ n else tchN fi ac f n := rfl
theorem tchN_b (fi ac : Nat → Nat) (f : Nat) : ∀ n, tchN fi ac f n < 2 ^ n
  | 0 => Nat.zero_lt_one
  | n + 1 => by
    have ih := tchN_b fi ac f n
    have h2 : 2 ^ n < 2 ^ (n + 1) := Nat.pow_lt_pow_right (by decide) (Nat.lt_succ_self n)
    rw [tchN_s]
    split
    · exact Nat.or_lt_two_pow (by omega) h2
    · omega
abbrev betP (tr bu : Nat → Nat) (a b : Nat) : Prop := tr b < tr a ∨ tr a = tr b ∧ bu a < bu b
def choN (tr bu : Nat → Nat) (ex : Int) : Nat → Nat
  | 0 => 0
  | n + 1 => if (¬ ((n : Nat) : Int) = ex ∧ 20 ≤ tr n) ∧ (choN tr bu ex n = 0 ∨ betP tr bu n (choN tr bu ex n - 1)) then n + 1 else choN tr bu ex n
theorem choN_s (tr bu : Nat → Nat) (ex : Int) (n : Nat) : choN tr bu ex (n + 1) = if (¬ ((n : Nat) : Int) = ex ∧ 20 ≤ tr n) ∧ (choN tr bu ex n = 0 ∨ betP tr bu n (choN tr bu ex n - 1)) then n + 1 else choN tr bu ex n := rfl
theorem choN_le (tr bu : Nat → Nat) (ex : Int) : ∀ n, choN tr bu ex n ≤ n
  | 0 => Nat.le_refl 0
  | n + 1 => by
    have ih := choN_le tr bu ex n
    rw [choN_s]
    split <;> omega
def runN (fa ru : Nat → Nat) (w cp : Nat) : Nat := if 0 < fa w ∧ (ru w + 1) % fa w = 0 then (cp + 1) % 997 else cp
def trN (z : Int) : Nat := (if z < 0 then 0 else if 100 < z then 100 else z).toNat
def chtN (tr : Nat → Nat) (w : Nat) (z : Int) (n : Nat) : Nat → Nat := if w < n then sU tr w (trN (((tr w : Nat) : Int) + z)) else tr
set_option maxHeartbeats 4000000 in
set_option maxRecDepth 100000 in
theorem m_X4_allActions (l : Launch) (G : sx_G) (sz : Nat) (plq : Nat) (pl0 : Nat) (pl1 : Nat) (plN : Nat) (pl3 : Nat) (pl4 : Nat) (pl5 : Nat) (pl6 : Nat) (pl7 : Nat) (pl8 : Nat) (pl9 : Nat) (h_pn : plN ≤ 14) : sx_Met l yX4_allActions cX4_allActions 1 (some .int) 0 0 0 0 G [.ref plq] [(plq, .inr (4, [.ref pl0, .ref pl1, .int (nI plN), .ref pl3, .ref pl4, .ref pl5, .ref pl6, .ref pl7, .ref pl8, .ref pl9]))] sz (sx_Qi G (fun (r : Int32) (u : Unit) => r = nI (2 ^ plN - 1)) (fun (u : Unit) => [(plq, .inr (4, [.ref pl0, .ref pl1, .int (nI plN), .ref pl3, .ref pl4, .ref pl5, .ref pl6, .ref pl7, .ref pl8, .ref pl9]))])) := by
  refine sx_start (by decide) rfl (fun p e s m below meth c A ls F hr hlk hnm hP hD hS hl => ?_)
  obtain ⟨hx, hb, hml, hown, hts, hK, hE, hA⟩ := id F
  have hown : s.vm.findClass RX4 = some m.cls := hown
  generalize hHe : s.heap = H at hP
  have hS : va_S A s.heap H [] := by rw [← hHe]; exact va_S.rf
  have hl : lv_has ls 1 [(0, .ref plq)] := hl
  refine lv_iconst (v := 1) hx hb dX4_allActions_0 (by decide) ?_
  refine lv_aload_n hx hb dX4_allActions_1 rfl (lv_at hl 0 rfl) ?_
  refine va_get (D := sx_D G) (ci := 4) (v := .int (nI plN)) (C := RX4) (T := TX4) (N := 10) hx hb hts inX4 hown hK hP 0 rfl rfl 2 (by decide) (hts _ q46) (fun _ h9 => h9) rfl dX4_allActions_2 ?_
  refine lv_ishl hx hb dX4_allActions_5 ?_
  refine sx_topI (sx_shl1 (k := plN) (by omega)) ?_
  refine lv_iconst (v := 1) hx hb dX4_allActions_6 (by decide) ?_
  refine lv_isub hx hb dX4_allActions_7 ?_
  refine sx_topI (pk_sub (a := (2 ^ plN)) (b := 1) (Nat.one_le_two_pow)) ?_
  exact (sx_iret (v := nI ((2 ^ plN) - 1)) () hx hb hr rfl hlk hP hD hS rfl dX4_allActions_8 rfl rfl)
set_option maxHeartbeats 4000000 in
set_option maxRecDepth 100000 in
theorem m_X4_printOf (l : Launch) (G : sx_G) (sz : Nat) (plq : Nat) (pl0 : Nat) (pl1 : Nat) (plN : Nat) (pl3 : Nat) (pl4 : Nat) (pl5 : Nat) (pl6 : Nat) (pl7 : Nat) (pl8 : Nat) (pl9 : Nat) (zFi : Nat → Nat) (zCt : Nat → Nat) (zAc : Nat → Nat) (zSe : Nat → Nat) (zVa : Nat → Nat) (ai : Nat) (ad : Nat) (f : Nat → Int) (h_zc : ∀ k, zCt k ≤ 99) (h_zv : ∀ k, zVa k ≤ 9) (h_zf : ∀ k, zFi k < 256) (h_za : ∀ k, zAc k < 16384) (h_zs : ∀ k, zSe k < 64) (h_a : ai < 14) (h_f : ∀ k, (zAc ai).testBit k = true → 0 ≤ f k ∧ f k ≤ 996) : sx_Met l yX4_printOf cX4_printOf 4 (some .int) 2 46 0 0 G [.ref plq, .int (nI ai), .ref ad] [(plq, .inr (4, [.ref pl0, .ref pl1, .int (nI plN), .ref pl3, .ref pl4, .ref pl5, .ref pl6, .ref pl7, .ref pl8, .ref pl9])), (pl3, .inl (G.2.1, 14, .inl (fun k => nI (zFi k)))), (pl0, .inl (G.2.1, 8, .inl (fun k => nI (zCt k)))), (pl4, .inl (G.2.1, 14, .inl (fun k => nI (zAc k)))), (pl5, .inl (G.2.1, 14, .inl (fun k => nI (zSe k)))), (pl1, .inl (G.2.1, 6, .inl (fun k => nI (zVa k)))), (ad, .inl (G.2.1, 14, .inl (fun k => sJ (f k))))] sz (sx_Qi G (fun (r : Int32) (u : Unit) => r = nI (prnN zFi zCt zAc zSe zVa f ai)) (fun (u : Unit) => [(plq, .inr (4, [.ref pl0, .ref pl1, .int (nI plN), .ref pl3, .ref pl4, .ref pl5, .ref pl6, .ref pl7, .ref pl8, .ref pl9])), (pl3, .inl (G.2.1, 14, .inl (fun k => nI (zFi k)))), (pl0, .inl (G.2.1, 8, .inl (fun k => nI (zCt k)))), (pl4, .inl (G.2.1, 14, .inl (fun k => nI (zAc k)))), (pl5, .inl (G.2.1, 14, .inl (fun k => nI (zSe k)))), (pl1, .inl (G.2.1, 6, .inl (fun k => nI (zVa k)))), (ad, .inl (G.2.1, 14, .inl (fun k => sJ (f k))))])) := by
  refine sx_start (by decide) rfl (fun p e s m below meth c A ls F hr hlk hnm hP hD hS hl => ?_)
  obtain ⟨hx, hb, hml, hown, hts, hK, hE, hA⟩ := id F
  have hown : s.vm.findClass RX4 = some m.cls := hown
  generalize hHe : s.heap = H at hP
  have hS : va_S A s.heap H [] := by rw [← hHe]; exact va_S.rf
  have hl : lv_has ls 4 [(0, .ref plq), (1, .int (nI ai)), (2, .ref ad)] := hl
  refine lv_bipush (v := 31) hx hb dX4_printOf_0 (by decide) ?_
  refine lv_iload_n hx hb dX4_printOf_2 rfl (lv_at hl 1 rfl) ?_
  refine lv_imul hx hb dX4_printOf_3 ?_
  refine sx_topI (pk_mul 31 ai) ?_
  refine lv_bipush (v := 7) hx hb dX4_printOf_4 (by decide) ?_
  refine lv_aload_n hx hb dX4_printOf_6 rfl (lv_at hl 0 rfl) ?_
  refine va_get (D := sx_D G) (ci := 4) (v := .ref pl3) (C := RX4) (T := TX4) (N := 10) hx hb hts inX4 hown hK hP 0 rfl rfl 3 (by decide) (hts _ q49) (fun _ h9 => h9) rfl dX4_printOf_7 ?_
  refine lv_iload_n hx hb dX4_printOf_10 rfl (lv_at hl 1 rfl) ?_
  refine sx_ild (X := ai) hx hb hK hP 1 rfl (by omega) rfl dX4_printOf_11 ?_
  have b_1 := h_zf ai
  refine lv_aload_n hx hb dX4_printOf_12 rfl (lv_at hl 0 rfl) ?_
  refine va_get (D := sx_D G) (ci := 4) (v := .ref pl0) (C := RX4) (T := TX4) (N := 10) hx hb hts inX4 hown hK hP 0 rfl rfl 0 (by decide) (hts _ q40) (fun _ h9 => h9) rfl dX4_printOf_13 ?_
  refine lv_iconst (v := 1) hx hb dX4_printOf_16 (by decide) ?_
  have hcut : sx_cut [(plq, .inr (4, [.ref pl0, .ref pl1, .int (nI plN), .ref pl3, .ref pl4, .ref pl5, .ref pl6, .ref pl7, .ref pl8, .ref pl9])), (pl3, .inl (G.2.1, 14, .inl (fun k => nI (zFi k)))), (pl0, .inl (G.2.1, 8, .inl (fun k => nI (zCt k)))), (pl4, .inl (G.2.1, 14, .inl (fun k => nI (zAc k)))), (pl5, .inl (G.2.1, 14, .inl (fun k => nI (zSe k)))), (pl1, .inl (G.2.1, 6, .inl (fun k => nI (zVa k)))), (ad, .inl (G.2.1, 14, .inl (fun k => sJ (f k))))] [(pl0, .inl (G.2.1, 8, .inl (fun k => nI (zCt k))))] [(plq, .inr (4, [.ref pl0, .ref pl1, .int (nI plN), .ref pl3, .ref pl4, .ref pl5, .ref pl6, .ref pl7, .ref pl8, .ref pl9])), (pl3, .inl (G.2.1, 14, .inl (fun k => nI (zFi k)))), (pl4, .inl (G.2.1, 14, .inl (fun k => nI (zAc k)))), (pl5, .inl (G.2.1, 14, .inl (fun k => nI (zSe k)))), (pl1, .inl (G.2.1, 6, .inl (fun k => nI (zVa k)))), (ad, .inl (G.2.1, 14, .inl (fun k => sJ (f k))))] [2] [0, 1, 3, 4, 5, 6] := ⟨rfl, rfl, by decide, by decide, by decide⟩
  refine sx_ki (sx_runSN (As := [.int (nI (zFi ai)), .ref pl0, .int 1]) (rest := [.int 7, .int (nI (31 * ai))]) F (m_weigh8 l G H.size (zFi ai) pl0 1 (fun k => ((zCt k : Nat) : Int)) (show (zFi ai) < 1073741824 from (by first | assumption | omega))) mi_X7_weigh q495 q494 ⟨⟨Nat.le_of_ble_eq_true rfl, Nat.le_of_ble_eq_true rfl⟩, Nat.le_of_ble_eq_true rfl, Nat.le_of_ble_eq_true rfl⟩ hcut hP hD hS rfl hl.1 rfl (Nat.le_of_ble_eq_true rfl) dX4_printOf_17) hcut hP hD hS hA (fun r_4 u_2 H locs w_3 hP hD hS => ?_)
  have hP : va_P (sx_D G) vwCl [(plq, .inr (4, [.ref pl0, .ref pl1, .int (nI plN), .ref pl3, .ref pl4, .ref pl5, .ref pl6, .ref pl7, .ref pl8, .ref pl9])), (pl3, .inl (G.2.1, 14, .inl (fun k => nI (zFi k)))), (pl4, .inl (G.2.1, 14, .inl (fun k => nI (zAc k)))), (pl5, .inl (G.2.1, 14, .inl (fun k => nI (zSe k)))), (pl1, .inl (G.2.1, 6, .inl (fun k => nI (zVa k)))), (ad, .inl (G.2.1, 14, .inl (fun k => sJ (f k)))), (pl0, .inl (G.2.1, 8, .inl (fun k => nI (zCt k))))] H := hP
  have hD : va_D A [(plq, .inr (4, [.ref pl0, .ref pl1, .int (nI plN), .ref pl3, .ref pl4, .ref pl5, .ref pl6, .ref pl7, .ref pl8, .ref pl9])), (pl3, .inl (G.2.1, 14, .inl (fun k => nI (zFi k)))), (pl4, .inl (G.2.1, 14, .inl (fun k => nI (zAc k)))), (pl5, .inl (G.2.1, 14, .inl (fun k => nI (zSe k)))), (pl1, .inl (G.2.1, 6, .inl (fun k => nI (zVa k)))), (ad, .inl (G.2.1, 14, .inl (fun k => sJ (f k)))), (pl0, .inl (G.2.1, 8, .inl (fun k => nI (zCt k))))] := hD
  have w_3 : r_4 = sJ (weighN (zFi ai) (fun k => ((zCt k : Nat) : Int)) 1 8) := w_3
  subst w_3
  refine lv_imul hx hb dX4_printOf_20 ?_
  refine sx_topI (sJ_mul (7 : Int) (weighN (zFi ai) (fun k => ((zCt k : Nat) : Int)) 1 8)) ?_
  refine lv_iadd hx hb dX4_printOf_21 ?_
  refine sx_topI (sJ_add ((31 * ai : Nat) : Int) ((7 : Int) * (weighN (zFi ai) (fun k => ((zCt k : Nat) : Int)) 1 8))) ?_
  refine lv_iconst (v := 5) hx hb dX4_printOf_22 (by decide) ?_
  refine lv_aload_n hx hb dX4_printOf_23 rfl (lv_at hl 0 rfl) ?_
  refine va_get (D := sx_D G) (ci := 4) (v := .ref pl4) (C := RX4) (T := TX4) (N := 10) hx hb hts inX4 hown hK hP 0 rfl rfl 4 (by decide) (hts _ q52) (fun _ h9 => h9) rfl dX4_printOf_24 ?_
  refine lv_iload_n hx hb dX4_printOf_27 rfl (lv_at hl 1 rfl) ?_
  refine sx_ild (X := ai) hx hb hK hP 2 rfl (by omega) rfl dX4_printOf_28 ?_
  have b_5 := h_za ai
  refine lv_aload_n hx hb dX4_printOf_29 rfl (lv_at hl 2 rfl) ?_
  refine lv_iconst (v := 2) hx hb dX4_printOf_30 (by decide) ?_
  have hcut : sx_cut [(plq, .inr (4, [.ref pl0, .ref pl1, .int (nI plN), .ref pl3, .ref pl4, .ref pl5, .ref pl6, .ref pl7, .ref pl8, .ref pl9])), (pl3, .inl (G.2.1, 14, .inl (fun k => nI (zFi k)))), (pl4, .inl (G.2.1, 14, .inl (fun k => nI (zAc k)))), (pl5, .inl (G.2.1, 14, .inl (fun k => nI (zSe k)))), (pl1, .inl (G.2.1, 6, .inl (fun k => nI (zVa k)))), (ad, .inl (G.2.1, 14, .inl (fun k => sJ (f k)))), (pl0, .inl (G.2.1, 8, .inl (fun k => nI (zCt k))))] [(ad, .inl (G.2.1, 14, .inl (fun k => sJ (f k))))] [(plq, .inr (4, [.ref pl0, .ref pl1, .int (nI plN), .ref pl3, .ref pl4, .ref pl5, .ref pl6, .ref pl7, .ref pl8, .ref pl9])), (pl3, .inl (G.2.1, 14, .inl (fun k => nI (zFi k)))), (pl4, .inl (G.2.1, 14, .inl (fun k => nI (zAc k)))), (pl5, .inl (G.2.1, 14, .inl (fun k => nI (zSe k)))), (pl1, .inl (G.2.1, 6, .inl (fun k => nI (zVa k)))), (pl0, .inl (G.2.1, 8, .inl (fun k => nI (zCt k))))] [5] [0, 1, 2, 3, 4, 6] := ⟨rfl, rfl, by decide, by decide, by decide⟩
  refine sx_ki (sx_runSN (As := [.int (nI (zAc ai)), .ref ad, .int 2]) (rest := [.int 5, .int (sJ (((31 * ai : Nat) : Int) + ((7 : Int) * (weighN (zFi ai) (fun k => ((zCt k : Nat) : Int)) 1 8))))]) F (m_weigh14 l G H.size (zAc ai) ad 2 f (show (zAc ai) < 1073741824 from (by first | assumption | omega))) mi_X7_weigh q495 q494 ⟨⟨Nat.le_of_ble_eq_true rfl, Nat.le_of_ble_eq_true rfl⟩, Nat.le_of_ble_eq_true rfl, Nat.le_of_ble_eq_true rfl⟩ hcut hP hD hS rfl hl.1 rfl (Nat.le_of_ble_eq_true rfl) dX4_printOf_31) hcut hP hD hS hA (fun r_8 u_6 H locs w_7 hP hD hS => ?_)
  have hP : va_P (sx_D G) vwCl [(plq, .inr (4, [.ref pl0, .ref pl1, .int (nI plN), .ref pl3, .ref pl4, .ref pl5, .ref pl6, .ref pl7, .ref pl8, .ref pl9])), (pl3, .inl (G.2.1, 14, .inl (fun k => nI (zFi k)))), (pl4, .inl (G.2.1, 14, .inl (fun k => nI (zAc k)))), (pl5, .inl (G.2.1, 14, .inl (fun k => nI (zSe k)))), (pl1, .inl (G.2.1, 6, .inl (fun k => nI (zVa k)))), (pl0, .inl (G.2.1, 8, .inl (fun k => nI (zCt k)))), (ad, .inl (G.2.1, 14, .inl (fun k => sJ (f k))))] H := hP
  have hD : va_D A [(plq, .inr (4, [.ref pl0, .ref pl1, .int (nI plN), .ref pl3, .ref pl4, .ref pl5, .ref pl6, .ref pl7, .ref pl8, .ref pl9])), (pl3, .inl (G.2.1, 14, .inl (fun k => nI (zFi k)))), (pl4, .inl (G.2.1, 14, .inl (fun k => nI (zAc k)))), (pl5, .inl (G.2.1, 14, .inl (fun k => nI (zSe k)))), (pl1, .inl (G.2.1, 6, .inl (fun k => nI (zVa k)))), (pl0, .inl (G.2.1, 8, .inl (fun k => nI (zCt k)))), (ad, .inl (G.2.1, 14, .inl (fun k => sJ (f k))))] := hD
  have w_7 : r_8 = sJ (weighN (zAc ai) f 2 14) := w_7
  subst w_7
  refine lv_imul hx hb dX4_printOf_34 ?_
  refine sx_topI (sJ_mul (5 : Int) (weighN (zAc ai) f 2 14)) ?_
  refine lv_iadd hx hb dX4_printOf_35 ?_
  refine sx_topI (sJ_add (((31 * ai : Nat) : Int) + ((7 : Int) * (weighN (zFi ai) (fun k => ((zCt k : Nat) : Int)) 1 8))) ((5 : Int) * (weighN (zAc ai) f 2 14))) ?_
  refine lv_iconst (v := 3) hx hb dX4_printOf_36 (by decide) ?_
  refine lv_aload_n hx hb dX4_printOf_37 rfl (lv_at hl 0 rfl) ?_
  refine va_get (D := sx_D G) (ci := 4) (v := .ref pl5) (C := RX4) (T := TX4) (N := 10) hx hb hts inX4 hown hK hP 0 rfl rfl 5 (by decide) (hts _ q55) (fun _ h9 => h9) rfl dX4_printOf_38 ?_
  refine lv_iload_n hx hb dX4_printOf_41 rfl (lv_at hl 1 rfl) ?_
  refine sx_ild (X := ai) hx hb hK hP 3 rfl (by omega) rfl dX4_printOf_42 ?_
  have b_9 := h_zs ai
  refine lv_aload_n hx hb dX4_printOf_43 rfl (lv_at hl 0 rfl) ?_
  refine va_get (D := sx_D G) (ci := 4) (v := .ref pl1) (C := RX4) (T := TX4) (N := 10) hx hb hts inX4 hown hK hP 0 rfl rfl 1 (by decide) (hts _ q43) (fun _ h9 => h9) rfl dX4_printOf_44 ?_
  refine lv_iconst (v := 1) hx hb dX4_printOf_47 (by decide) ?_
  have hcut : sx_cut [(plq, .inr (4, [.ref pl0, .ref pl1, .int (nI plN), .ref pl3, .ref pl4, .ref pl5, .ref pl6, .ref pl7, .ref pl8, .ref pl9])), (pl3, .inl (G.2.1, 14, .inl (fun k => nI (zFi k)))), (pl4, .inl (G.2.1, 14, .inl (fun k => nI (zAc k)))), (pl5, .inl (G.2.1, 14, .inl (fun k => nI (zSe k)))), (pl1, .inl (G.2.1, 6, .inl (fun k => nI (zVa k)))), (pl0, .inl (G.2.1, 8, .inl (fun k => nI (zCt k)))), (ad, .inl (G.2.1, 14, .inl (fun k => sJ (f k))))] [(pl1, .inl (G.2.1, 6, .inl (fun k => nI (zVa k))))] [(plq, .inr (4, [.ref pl0, .ref pl1, .int (nI plN), .ref pl3, .ref pl4, .ref pl5, .ref pl6, .ref pl7, .ref pl8, .ref pl9])), (pl3, .inl (G.2.1, 14, .inl (fun k => nI (zFi k)))), (pl4, .inl (G.2.1, 14, .inl (fun k => nI (zAc k)))), (pl5, .inl (G.2.1, 14, .inl (fun k => nI (zSe k)))), (pl0, .inl (G.2.1, 8, .inl (fun k => nI (zCt k)))), (ad, .inl (G.2.1, 14, .inl (fun k => sJ (f k))))] [4] [0, 1, 2, 3, 5, 6] := ⟨rfl, rfl, by decide, by decide, by decide⟩
  refine sx_ki (sx_runSN (As := [.int (nI (zSe ai)), .ref pl1, .int 1]) (rest := [.int 3, .int (sJ ((((31 * ai : Nat) : Int) + ((7 : Int) * (weighN (zFi ai) (fun k => ((zCt k : Nat) : Int)) 1 8))) + ((5 : Int) * (weighN (zAc ai) f 2 14))))]) F (m_weigh6 l G H.size (zSe ai) pl1 1 (fun k => ((zVa k : Nat) : Int)) (show (zSe ai) < 1073741824 from (by first | assumption | omega))) mi_X7_weigh q495 q494 ⟨⟨Nat.le_of_ble_eq_true rfl, Nat.le_of_ble_eq_true rfl⟩, Nat.le_of_ble_eq_true rfl, Nat.le_of_ble_eq_true rfl⟩ hcut hP hD hS rfl hl.1 rfl (Nat.le_of_ble_eq_true rfl) dX4_printOf_48) hcut hP hD hS hA (fun r_12 u_10 H locs w_11 hP hD hS => ?_)
  have hP : va_P (sx_D G) vwCl [(plq, .inr (4, [.ref pl0, .ref pl1, .int (nI plN), .ref pl3, .ref pl4, .ref pl5, .ref pl6, .ref pl7, .ref pl8, .ref pl9])), (pl3, .inl (G.2.1, 14, .inl (fun k => nI (zFi k)))), (pl4, .inl (G.2.1, 14, .inl (fun k => nI (zAc k)))), (pl5, .inl (G.2.1, 14, .inl (fun k => nI (zSe k)))), (pl0, .inl (G.2.1, 8, .inl (fun k => nI (zCt k)))), (ad, .inl (G.2.1, 14, .inl (fun k => sJ (f k)))), (pl1, .inl (G.2.1, 6, .inl (fun k => nI (zVa k))))] H := hP
  have hD : va_D A [(plq, .inr (4, [.ref pl0, .ref pl1, .int (nI plN), .ref pl3, .ref pl4, .ref pl5, .ref pl6, .ref pl7, .ref pl8, .ref pl9])), (pl3, .inl (G.2.1, 14, .inl (fun k => nI (zFi k)))), (pl4, .inl (G.2.1, 14, .inl (fun k => nI (zAc k)))), (pl5, .inl (G.2.1, 14, .inl (fun k => nI (zSe k)))), (pl0, .inl (G.2.1, 8, .inl (fun k => nI (zCt k)))), (ad, .inl (G.2.1, 14, .inl (fun k => sJ (f k)))), (pl1, .inl (G.2.1, 6, .inl (fun k => nI (zVa k))))] := hD
  have w_11 : r_12 = sJ (weighN (zSe ai) (fun k => ((zVa k : Nat) : Int)) 1 6) := w_11
  subst w_11
  refine lv_imul hx hb dX4_printOf_51 ?_
  refine sx_topI (sJ_mul (3 : Int) (weighN (zSe ai) (fun k => ((zVa k : Nat) : Int)) 1 6)) ?_
  refine lv_iadd hx hb dX4_printOf_52 ?_
  refine sx_topI (sJ_add ((((31 * ai : Nat) : Int) + ((7 : Int) * (weighN (zFi ai) (fun k => ((zCt k : Nat) : Int)) 1 8))) + ((5 : Int) * (weighN (zAc ai) f 2 14))) ((3 : Int) * (weighN (zSe ai) (fun k => ((zVa k : Nat) : Int)) 1 6))) ?_
  refine lv_istore_n (lv' := [(3, .int (sJ (((((31 * ai : Nat) : Int) + ((7 : Int) * (weighN (zFi ai) (fun k => ((zCt k : Nat) : Int)) 1 8))) + ((5 : Int) * (weighN (zAc ai) f 2 14))) + ((3 : Int) * (weighN (zSe ai) (fun k => ((zVa k : Nat) : Int)) 1 6))))), (0, .ref plq), (1, .int (nI ai)), (2, .ref ad)]) hx hb dX4_printOf_53 rfl hl (by decide) rfl (fun ls hl => ?_)
  have hl : lv_has ls 4 [(3, .int (sJ (prnZ zFi zCt zAc zSe zVa f ai))), (0, .ref plq), (1, .int (nI ai)), (2, .ref ad)] := hl
  have h_z := prnZ_b (zFi := zFi) (zCt := zCt) (zAc := zAc) (zSe := zSe) (zVa := zVa) (f := f) h_a h_zc h_zv h_f
  refine lv_iload_n hx hb dX4_printOf_54 rfl (lv_at hl 0 rfl) ?_
  refine lv_sipush (v := 997) hx hb dX4_printOf_55 (by decide) ?_
  refine lv_irem hx hb dX4_printOf_58 (by decide) ?_
  refine sx_topI (sJ_rem h_z.1 h_z.2) ?_
  have hP := hP.sub (ws' := [(plq, .inr (4, [.ref pl0, .ref pl1, .int (nI plN), .ref pl3, .ref pl4, .ref pl5, .ref pl6, .ref pl7, .ref pl8, .ref pl9])), (pl3, .inl (G.2.1, 14, .inl (fun k => nI (zFi k)))), (pl0, .inl (G.2.1, 8, .inl (fun k => nI (zCt k)))), (pl4, .inl (G.2.1, 14, .inl (fun k => nI (zAc k)))), (pl5, .inl (G.2.1, 14, .inl (fun k => nI (zSe k)))), (pl1, .inl (G.2.1, 6, .inl (fun k => nI (zVa k)))), (ad, .inl (G.2.1, 14, .inl (fun k => sJ (f k))))]) [0, 1, 4, 2, 3, 6, 5] rfl
  have hD := hD.sub (ws' := [(plq, .inr (4, [.ref pl0, .ref pl1, .int (nI plN), .ref pl3, .ref pl4, .ref pl5, .ref pl6, .ref pl7, .ref pl8, .ref pl9])), (pl3, .inl (G.2.1, 14, .inl (fun k => nI (zFi k)))), (pl0, .inl (G.2.1, 8, .inl (fun k => nI (zCt k)))), (pl4, .inl (G.2.1, 14, .inl (fun k => nI (zAc k)))), (pl5, .inl (G.2.1, 14, .inl (fun k => nI (zSe k)))), (pl1, .inl (G.2.1, 6, .inl (fun k => nI (zVa k)))), (ad, .inl (G.2.1, 14, .inl (fun k => sJ (f k))))]) [0, 1, 4, 2, 3, 6, 5] (by decide) rfl
  exact (sx_iret (v := nI (prnN zFi zCt zAc zSe zVa f ai)) () hx hb hr rfl hlk hP hD hS rfl dX4_printOf_59 rfl rfl)
set_option maxHeartbeats 4000000 in
set_option maxRecDepth 100000 in
theorem m_X4_cleanPrint (l : Launch) (G : sx_G) (sz : Nat) (plq : Nat) (pl0 : Nat) (pl1 : Nat) (plN : Nat) (pl3 : Nat) (pl4 : Nat) (pl5 : Nat) (pl6 : Nat) (pl7 : Nat) (pl8 : Nat) (pl9 : Nat) (zFi : Nat → Nat) (zCt : Nat → Nat) (zAc : Nat → Nat) (zSe : Nat → Nat) (zVa : Nat → Nat) (zCl : Nat → Nat) (ai : Nat) (h_zc : ∀ k, zCt k ≤ 99) (h_zv : ∀ k, zVa k ≤ 9) (h_zf : ∀ k, zFi k < 256) (h_za : ∀ k, zAc k < 16384) (h_zs : ∀ k, zSe k < 64) (h_a : ai < 14) (h_cl : ∀ k, zCl k ≤ 996) : sx_Met l yX4_cleanPrint cX4_cleanPrint 3 (some .int) 3 69 0 0 G [.ref plq, .int (nI ai)] [(plq, .inr (4, [.ref pl0, .ref pl1, .int (nI plN), .ref pl3, .ref pl4, .ref pl5, .ref pl6, .ref pl7, .ref pl8, .ref pl9])), (pl3, .inl (G.2.1, 14, .inl (fun k => nI (zFi k)))), (pl0, .inl (G.2.1, 8, .inl (fun k => nI (zCt k)))), (pl4, .inl (G.2.1, 14, .inl (fun k => nI (zAc k)))), (pl5, .inl (G.2.1, 14, .inl (fun k => nI (zSe k)))), (pl1, .inl (G.2.1, 6, .inl (fun k => nI (zVa k)))), (pl9, .inl (G.2.1, 14, .inl (fun k => nI (zCl k))))] sz (sx_Qi G (fun (r : Int32) (u : Unit) => r = nI (clnA zFi zCt zAc zSe zVa zCl (ai + 1) ai)) (fun (u : Unit) => [(plq, .inr (4, [.ref pl0, .ref pl1, .int (nI plN), .ref pl3, .ref pl4, .ref pl5, .ref pl6, .ref pl7, .ref pl8, .ref pl9])), (pl3, .inl (G.2.1, 14, .inl (fun k => nI (zFi k)))), (pl0, .inl (G.2.1, 8, .inl (fun k => nI (zCt k)))), (pl4, .inl (G.2.1, 14, .inl (fun k => nI (zAc k)))), (pl5, .inl (G.2.1, 14, .inl (fun k => nI (zSe k)))), (pl1, .inl (G.2.1, 6, .inl (fun k => nI (zVa k)))), (pl9, .inl (G.2.1, 14, .inl (fun k => nI ((clnA zFi zCt zAc zSe zVa zCl (ai + 1)) k))))])) := by
  refine sx_start (by decide) rfl (fun p e s m below meth c A ls F hr hlk hnm hP hD hS hl => ?_)
  obtain ⟨hx, hb, hml, hown, hts, hK, hE, hA⟩ := id F
  have hown : s.vm.findClass RX4 = some m.cls := hown
  generalize hHe : s.heap = H at hP
  have hS : va_S A s.heap H [] := by rw [← hHe]; exact va_S.rf
  have hl : lv_has ls 3 [(0, .ref plq), (1, .int (nI ai))] := hl
  refine lv_iconst (v := 0) hx hb dX4_cleanPrint_0 (by decide) ?_
  refine lv_istore_n (lv' := [(2, .int 0), (0, .ref plq), (1, .int (nI ai))]) hx hb dX4_cleanPrint_1 rfl hl (by decide) rfl (fun ls hl => ?_)
  refine sx_loop (nL := 3) (fun i => [(plq, .inr (4, [.ref pl0, .ref pl1, .int (nI plN), .ref pl3, .ref pl4, .ref pl5, .ref pl6, .ref pl7, .ref pl8, .ref pl9])), (pl3, .inl (G.2.1, 14, .inl (fun k => nI (zFi k)))), (pl0, .inl (G.2.1, 8, .inl (fun k => nI (zCt k)))), (pl4, .inl (G.2.1, 14, .inl (fun k => nI (zAc k)))), (pl5, .inl (G.2.1, 14, .inl (fun k => nI (zSe k)))), (pl1, .inl (G.2.1, 6, .inl (fun k => nI (zVa k)))), (pl9, .inl (G.2.1, 14, .inl (fun k => nI (clnA zFi zCt zAc zSe zVa zCl i k))))]) (fun i => [(2, .int (nI i)), (0, .ref plq), (1, .int (nI ai))]) (fun i => True) (ai + 1) trivial hP hD hS (lv_sub hl [0, 1, 2] rfl) (fun i_1 hi_i_1 hI_i_1 H locs ls hP hD hS hl ih_i_1 => ?_)
  have hP : va_P (sx_D G) vwCl [(plq, .inr (4, [.ref pl0, .ref pl1, .int (nI plN), .ref pl3, .ref pl4, .ref pl5, .ref pl6, .ref pl7, .ref pl8, .ref pl9])), (pl3, .inl (G.2.1, 14, .inl (fun k => nI (zFi k)))), (pl0, .inl (G.2.1, 8, .inl (fun k => nI (zCt k)))), (pl4, .inl (G.2.1, 14, .inl (fun k => nI (zAc k)))), (pl5, .inl (G.2.1, 14, .inl (fun k => nI (zSe k)))), (pl1, .inl (G.2.1, 6, .inl (fun k => nI (zVa k)))), (pl9, .inl (G.2.1, 14, .inl (fun k => nI (clnA zFi zCt zAc zSe zVa zCl i_1 k))))] H := hP
  have hD : va_D A [(plq, .inr (4, [.ref pl0, .ref pl1, .int (nI plN), .ref pl3, .ref pl4, .ref pl5, .ref pl6, .ref pl7, .ref pl8, .ref pl9])), (pl3, .inl (G.2.1, 14, .inl (fun k => nI (zFi k)))), (pl0, .inl (G.2.1, 8, .inl (fun k => nI (zCt k)))), (pl4, .inl (G.2.1, 14, .inl (fun k => nI (zAc k)))), (pl5, .inl (G.2.1, 14, .inl (fun k => nI (zSe k)))), (pl1, .inl (G.2.1, 6, .inl (fun k => nI (zVa k)))), (pl9, .inl (G.2.1, 14, .inl (fun k => nI (clnA zFi zCt zAc zSe zVa zCl i_1 k))))] := hD
  have hl : lv_has ls 3 [(2, .int (nI i_1)), (0, .ref plq), (1, .int (nI ai))] := hl
  have hI_i_1 : True := hI_i_1
  refine lv_iload_n hx hb dX4_cleanPrint_2 rfl (lv_at hl 0 rfl) ?_
  refine lv_iload_n hx hb dX4_cleanPrint_3 rfl (lv_at hl 2 rfl) ?_
  refine lv_icmp_gt (tgt := 28) hx hb dX4_cleanPrint_4 (by decide) (fun c_2 => ?_) (fun c_2 => ?_)
  · have c_2 : ai < i_1 := by have h9 : ((ai : Nat) : Int) < ((i_1 : Nat) : Int) := (sJ_lt (a := ((ai : Nat) : Int)) (b := ((i_1 : Nat) : Int)) (by omega) (by omega) (by omega) (by omega)).mp c_2; omega
    refine lv_aload_n hx hb dX4_cleanPrint_28 rfl (lv_at hl 1 rfl) ?_
    refine va_get (D := sx_D G) (ci := 4) (v := .ref pl9) (C := RX4) (T := TX4) (N := 10) hx hb hts inX4 hown hK hP 0 rfl rfl 9 (by decide) (hts _ q71) (fun _ h9 => h9) rfl dX4_cleanPrint_29 ?_
    refine lv_iload_n hx hb dX4_cleanPrint_32 rfl (lv_at hl 2 rfl) ?_
    refine sx_ild (X := ai) hx hb hK hP 6 rfl (by omega) rfl dX4_cleanPrint_33 ?_
    have e8_0 : clnA zFi zCt zAc zSe zVa zCl (ai + 1) = clnA zFi zCt zAc zSe zVa zCl i_1 := (by rw [show i_1 = ai + 1 by omega])
    have hP : va_P (sx_D G) vwCl [(plq, .inr (4, [.ref pl0, .ref pl1, .int (nI plN), .ref pl3, .ref pl4, .ref pl5, .ref pl6, .ref pl7, .ref pl8, .ref pl9])), (pl3, .inl (G.2.1, 14, .inl (fun k => nI (zFi k)))), (pl0, .inl (G.2.1, 8, .inl (fun k => nI (zCt k)))), (pl4, .inl (G.2.1, 14, .inl (fun k => nI (zAc k)))), (pl5, .inl (G.2.1, 14, .inl (fun k => nI (zSe k)))), (pl1, .inl (G.2.1, 6, .inl (fun k => nI (zVa k)))), (pl9, .inl (G.2.1, 14, .inl (fun k => nI ((clnA zFi zCt zAc zSe zVa zCl (ai + 1)) k))))] H := by rw [e8_0]; exact hP
    have hD : va_D A [(plq, .inr (4, [.ref pl0, .ref pl1, .int (nI plN), .ref pl3, .ref pl4, .ref pl5, .ref pl6, .ref pl7, .ref pl8, .ref pl9])), (pl3, .inl (G.2.1, 14, .inl (fun k => nI (zFi k)))), (pl0, .inl (G.2.1, 8, .inl (fun k => nI (zCt k)))), (pl4, .inl (G.2.1, 14, .inl (fun k => nI (zAc k)))), (pl5, .inl (G.2.1, 14, .inl (fun k => nI (zSe k)))), (pl1, .inl (G.2.1, 6, .inl (fun k => nI (zVa k)))), (pl9, .inl (G.2.1, 14, .inl (fun k => nI ((clnA zFi zCt zAc zSe zVa zCl (ai + 1)) k))))] := by rw [e8_0]; exact hD
    exact (sx_iret (v := nI (clnA zFi zCt zAc zSe zVa zCl i_1 ai)) () hx hb hr rfl hlk hP hD hS (congrArg (fun z => nI (clnA zFi zCt zAc zSe zVa zCl z ai)) (by omega)) dX4_cleanPrint_34 rfl rfl)
  · have c_2 : ¬ (ai < i_1) := by have h9 : ¬ (((ai : Nat) : Int) < ((i_1 : Nat) : Int)) := fun h => c_2 ((sJ_lt (a := ((ai : Nat) : Int)) (b := ((i_1 : Nat) : Int)) (by omega) (by omega) (by omega) (by omega)).mpr h); omega
    refine lv_aload_n hx hb dX4_cleanPrint_7 rfl (lv_at hl 1 rfl) ?_
    refine va_get (D := sx_D G) (ci := 4) (v := .ref pl9) (C := RX4) (T := TX4) (N := 10) hx hb hts inX4 hown hK hP 0 rfl rfl 9 (by decide) (hts _ q71) (fun _ h9 => h9) rfl dX4_cleanPrint_8 ?_
    refine lv_iload_n hx hb dX4_cleanPrint_11 rfl (lv_at hl 0 rfl) ?_
    refine lv_aload_n hx hb dX4_cleanPrint_12 rfl (lv_at hl 1 rfl) ?_
    refine lv_iload_n hx hb dX4_cleanPrint_13 rfl (lv_at hl 0 rfl) ?_
    refine lv_aload_n hx hb dX4_cleanPrint_14 rfl (lv_at hl 1 rfl) ?_
    refine va_get (D := sx_D G) (ci := 4) (v := .ref pl9) (C := RX4) (T := TX4) (N := 10) hx hb hts inX4 hown hK hP 0 rfl rfl 9 (by decide) (hts _ q71) (fun _ h9 => h9) rfl dX4_cleanPrint_15 ?_
    have hcut : sx_cut [(plq, .inr (4, [.ref pl0, .ref pl1, .int (nI plN), .ref pl3, .ref pl4, .ref pl5, .ref pl6, .ref pl7, .ref pl8, .ref pl9])), (pl3, .inl (G.2.1, 14, .inl (fun k => nI (zFi k)))), (pl0, .inl (G.2.1, 8, .inl (fun k => nI (zCt k)))), (pl4, .inl (G.2.1, 14, .inl (fun k => nI (zAc k)))), (pl5, .inl (G.2.1, 14, .inl (fun k => nI (zSe k)))), (pl1, .inl (G.2.1, 6, .inl (fun k => nI (zVa k)))), (pl9, .inl (G.2.1, 14, .inl (fun k => nI (clnA zFi zCt zAc zSe zVa zCl i_1 k))))] [(plq, .inr (4, [.ref pl0, .ref pl1, .int (nI plN), .ref pl3, .ref pl4, .ref pl5, .ref pl6, .ref pl7, .ref pl8, .ref pl9])), (pl3, .inl (G.2.1, 14, .inl (fun k => nI (zFi k)))), (pl0, .inl (G.2.1, 8, .inl (fun k => nI (zCt k)))), (pl4, .inl (G.2.1, 14, .inl (fun k => nI (zAc k)))), (pl5, .inl (G.2.1, 14, .inl (fun k => nI (zSe k)))), (pl1, .inl (G.2.1, 6, .inl (fun k => nI (zVa k)))), (pl9, .inl (G.2.1, 14, .inl (fun k => nI (clnA zFi zCt zAc zSe zVa zCl i_1 k))))] [] [0, 1, 2, 3, 4, 5, 6] [] := ⟨rfl, rfl, by decide, by decide, by decide⟩
    refine sx_ki (sx_runV (As := [.int (nI i_1), .ref pl9]) (rest := [.int (nI i_1), .ref pl9]) F (m_X4_printOf l G H.size plq pl0 pl1 plN pl3 pl4 pl5 pl6 pl7 pl8 pl9 zFi zCt zAc zSe zVa i_1 pl9 (fun k => ((clnA zFi zCt zAc zSe zVa zCl i_1 k : Nat) : Int)) (show ∀ k, zCt k ≤ 99 from (by first | assumption | omega)) (show ∀ k, zVa k ≤ 9 from (by first | assumption | omega)) (show ∀ k, zFi k < 256 from (by first | assumption | omega)) (show ∀ k, zAc k < 16384 from (by first | assumption | omega)) (show ∀ k, zSe k < 64 from (by first | assumption | omega)) (show i_1 < 14 from (by first | assumption | omega)) (show ∀ k, (zAc i_1).testBit k = true → 0 ≤ (fun k => ((clnA zFi zCt zAc zSe zVa zCl i_1 k : Nat) : Int)) k ∧ (fun k => ((clnA zFi zCt zAc zSe zVa zCl i_1 k : Nat) : Int)) k ≤ 996 from (fun k _ => ⟨Int.natCast_nonneg _, Int.ofNat_le.mpr (clnA_b (zFi := zFi) (zCt := zCt) (zAc := zAc) (zSe := zSe) (zVa := zVa) h_cl i_1 k)⟩))) mi_X4_printOf q491 qs_X4_printOf q490 ⟨⟨Nat.le_of_ble_eq_true rfl, Nat.le_of_ble_eq_true rfl⟩, Nat.le_of_ble_eq_true rfl, Nat.le_of_ble_eq_true rfl⟩ hcut hP hD hS 0 4 rfl rfl rfl hl.1 rfl (Nat.le_of_ble_eq_true rfl) dX4_cleanPrint_18) hcut hP hD hS hA (fun r_5 u_3 H locs w_4 hP hD hS => ?_)
    have hP : va_P (sx_D G) vwCl [(plq, .inr (4, [.ref pl0, .ref pl1, .int (nI plN), .ref pl3, .ref pl4, .ref pl5, .ref pl6, .ref pl7, .ref pl8, .ref pl9])), (pl3, .inl (G.2.1, 14, .inl (fun k => nI (zFi k)))), (pl0, .inl (G.2.1, 8, .inl (fun k => nI (zCt k)))), (pl4, .inl (G.2.1, 14, .inl (fun k => nI (zAc k)))), (pl5, .inl (G.2.1, 14, .inl (fun k => nI (zSe k)))), (pl1, .inl (G.2.1, 6, .inl (fun k => nI (zVa k)))), (pl9, .inl (G.2.1, 14, .inl (fun k => nI (clnA zFi zCt zAc zSe zVa zCl i_1 k))))] H := hP
    have hD : va_D A [(plq, .inr (4, [.ref pl0, .ref pl1, .int (nI plN), .ref pl3, .ref pl4, .ref pl5, .ref pl6, .ref pl7, .ref pl8, .ref pl9])), (pl3, .inl (G.2.1, 14, .inl (fun k => nI (zFi k)))), (pl0, .inl (G.2.1, 8, .inl (fun k => nI (zCt k)))), (pl4, .inl (G.2.1, 14, .inl (fun k => nI (zAc k)))), (pl5, .inl (G.2.1, 14, .inl (fun k => nI (zSe k)))), (pl1, .inl (G.2.1, 6, .inl (fun k => nI (zVa k)))), (pl9, .inl (G.2.1, 14, .inl (fun k => nI (clnA zFi zCt zAc zSe zVa zCl i_1 k))))] := hD
    have w_4 : r_5 = nI (prnN zFi zCt zAc zSe zVa (fun k => ((clnA zFi zCt zAc zSe zVa zCl i_1 k : Nat) : Int)) i_1) := w_4
    subst w_4
    refine sx_istN (X := i_1) (v := (prnN zFi zCt zAc zSe zVa (fun k => ((clnA zFi zCt zAc zSe zVa zCl i_1 k : Nat) : Int)) i_1)) (f := (clnA zFi zCt zAc zSe zVa zCl i_1)) hx hb hK hP hD hS 6 rfl (by omega) rfl dX4_cleanPrint_21 (fun H locs hP hD hS => ?_)
    have hP : va_P (sx_D G) vwCl [(plq, .inr (4, [.ref pl0, .ref pl1, .int (nI plN), .ref pl3, .ref pl4, .ref pl5, .ref pl6, .ref pl7, .ref pl8, .ref pl9])), (pl3, .inl (G.2.1, 14, .inl (fun k => nI (zFi k)))), (pl0, .inl (G.2.1, 8, .inl (fun k => nI (zCt k)))), (pl4, .inl (G.2.1, 14, .inl (fun k => nI (zAc k)))), (pl5, .inl (G.2.1, 14, .inl (fun k => nI (zSe k)))), (pl1, .inl (G.2.1, 6, .inl (fun k => nI (zVa k)))), (pl9, .inl (G.2.1, 14, .inl (fun k => nI ((sU (clnA zFi zCt zAc zSe zVa zCl i_1) i_1 (prnN zFi zCt zAc zSe zVa (fun k => ((clnA zFi zCt zAc zSe zVa zCl i_1 k : Nat) : Int)) i_1)) k))))] H := hP
    have hD : va_D A [(plq, .inr (4, [.ref pl0, .ref pl1, .int (nI plN), .ref pl3, .ref pl4, .ref pl5, .ref pl6, .ref pl7, .ref pl8, .ref pl9])), (pl3, .inl (G.2.1, 14, .inl (fun k => nI (zFi k)))), (pl0, .inl (G.2.1, 8, .inl (fun k => nI (zCt k)))), (pl4, .inl (G.2.1, 14, .inl (fun k => nI (zAc k)))), (pl5, .inl (G.2.1, 14, .inl (fun k => nI (zSe k)))), (pl1, .inl (G.2.1, 6, .inl (fun k => nI (zVa k)))), (pl9, .inl (G.2.1, 14, .inl (fun k => nI ((sU (clnA zFi zCt zAc zSe zVa zCl i_1) i_1 (prnN zFi zCt zAc zSe zVa (fun k => ((clnA zFi zCt zAc zSe zVa zCl i_1 k : Nat) : Int)) i_1)) k))))] := hD
    refine lv_iinc (v := nI (i_1 + 1)) (lv' := [(2, .int (nI (i_1 + 1))), (0, .ref plq), (1, .int (nI ai))]) hx hb dX4_cleanPrint_22 hl (k := 0) rfl ((congrArg (fun t => nI i_1 + t) (show Int32.ofInt 1 = nI 1 by decide +kernel)).trans (nI_add i_1 1)) (by decide) rfl (fun ls hl => ?_)
    refine lv_goto (tgt := 2) hx hb dX4_cleanPrint_25 (by decide) ?_
    have e9_0 : clnA zFi zCt zAc zSe zVa zCl (i_1 + 1) = (sU (clnA zFi zCt zAc zSe zVa zCl i_1) i_1 (prnN zFi zCt zAc zSe zVa (fun k => ((clnA zFi zCt zAc zSe zVa zCl i_1 k : Nat) : Int)) i_1)) := rfl
    have hl : lv_has ls 3 [(2, .int (nI (i_1 + 1))), (0, .ref plq), (1, .int (nI ai))] := by exact lv_sub hl [0, 1, 2] rfl
    have hP : va_P (sx_D G) vwCl [(plq, .inr (4, [.ref pl0, .ref pl1, .int (nI plN), .ref pl3, .ref pl4, .ref pl5, .ref pl6, .ref pl7, .ref pl8, .ref pl9])), (pl3, .inl (G.2.1, 14, .inl (fun k => nI (zFi k)))), (pl0, .inl (G.2.1, 8, .inl (fun k => nI (zCt k)))), (pl4, .inl (G.2.1, 14, .inl (fun k => nI (zAc k)))), (pl5, .inl (G.2.1, 14, .inl (fun k => nI (zSe k)))), (pl1, .inl (G.2.1, 6, .inl (fun k => nI (zVa k)))), (pl9, .inl (G.2.1, 14, .inl (fun k => nI ((clnA zFi zCt zAc zSe zVa zCl (i_1 + 1)) k))))] H := by rw [e9_0]; exact hP
    have hD : va_D A [(plq, .inr (4, [.ref pl0, .ref pl1, .int (nI plN), .ref pl3, .ref pl4, .ref pl5, .ref pl6, .ref pl7, .ref pl8, .ref pl9])), (pl3, .inl (G.2.1, 14, .inl (fun k => nI (zFi k)))), (pl0, .inl (G.2.1, 8, .inl (fun k => nI (zCt k)))), (pl4, .inl (G.2.1, 14, .inl (fun k => nI (zAc k)))), (pl5, .inl (G.2.1, 14, .inl (fun k => nI (zSe k)))), (pl1, .inl (G.2.1, 6, .inl (fun k => nI (zVa k)))), (pl9, .inl (G.2.1, 14, .inl (fun k => nI ((clnA zFi zCt zAc zSe zVa zCl (i_1 + 1)) k))))] := by rw [e9_0]; exact hD
    exact ih_i_1 _ _ _ (by omega) trivial hP hD hS hl
set_option maxHeartbeats 4000000 in
set_option maxRecDepth 100000 in
theorem m_X4_neededFor (l : Launch) (G : sx_G) (sz : Nat) (plq : Nat) (pl0 : Nat) (pl1 : Nat) (plN : Nat) (pl3 : Nat) (pl4 : Nat) (pl5 : Nat) (pl6 : Nat) (pl7 : Nat) (pl8 : Nat) (pl9 : Nat) (zAc : Nat → Nat) (ai : Nat) (h_za : ∀ k, zAc k < 16384) (h_a : ai < 14) : sx_Met l yX4_neededFor cX4_neededFor 4 (some .int) 1 22 0 0 G [.ref plq, .int (nI ai)] [(plq, .inr (4, [.ref pl0, .ref pl1, .int (nI plN), .ref pl3, .ref pl4, .ref pl5, .ref pl6, .ref pl7, .ref pl8, .ref pl9])), (pl4, .inl (G.2.1, 14, .inl (fun k => nI (zAc k))))] sz (sx_Qi G (fun (r : Int32) (u : Unit) => r = nI (needN zAc ai (ai + 1))) (fun (u : Unit) => [(plq, .inr (4, [.ref pl0, .ref pl1, .int (nI plN), .ref pl3, .ref pl4, .ref pl5, .ref pl6, .ref pl7, .ref pl8, .ref pl9])), (pl4, .inl (G.2.1, 14, .inl (fun k => nI (zAc k))))])) := by
  refine sx_start (by decide) rfl (fun p e s m below meth c A ls F hr hlk hnm hP hD hS hl => ?_)
  obtain ⟨hx, hb, hml, hown, hts, hK, hE, hA⟩ := id F
  have hown : s.vm.findClass RX4 = some m.cls := hown
  generalize hHe : s.heap = H at hP
  have hS : va_S A s.heap H [] := by rw [← hHe]; exact va_S.rf
  have hl : lv_has ls 4 [(0, .ref plq), (1, .int (nI ai))] := hl
  refine lv_iconst (v := 1) hx hb dX4_neededFor_0 (by decide) ?_
  refine lv_iload_n hx hb dX4_neededFor_1 rfl (lv_at hl 1 rfl) ?_
  refine lv_ishl hx hb dX4_neededFor_2 ?_
  refine sx_topI (sx_shl1 (k := ai) (by omega)) ?_
  refine lv_istore_n (lv' := [(2, .int (nI (2 ^ ai))), (0, .ref plq), (1, .int (nI ai))]) hx hb dX4_neededFor_3 rfl hl (by decide) rfl (fun ls hl => ?_)
  refine lv_iload_n hx hb dX4_neededFor_4 rfl (lv_at hl 2 rfl) ?_
  refine lv_istore_n (lv' := [(3, .int (nI ai)), (2, .int (nI (2 ^ ai))), (0, .ref plq), (1, .int (nI ai))]) hx hb dX4_neededFor_5 rfl hl (by decide) rfl (fun ls hl => ?_)
  have hl : lv_has ls 4 [(2, .int (nI (needN zAc ai 0))), (3, .int (sJ (((ai : Nat) : Int) - ((0 : Nat) : Int)))), (0, .ref plq), (1, .int (nI ai))] := by rw [show ((ai : Nat) : Int) - ((0 : Nat) : Int) = ((ai : Nat) : Int) by omega]; exact lv_sub hl [1, 0, 2, 3] rfl
  refine sx_loop (nL := 4) (fun i => [(plq, .inr (4, [.ref pl0, .ref pl1, .int (nI plN), .ref pl3, .ref pl4, .ref pl5, .ref pl6, .ref pl7, .ref pl8, .ref pl9])), (pl4, .inl (G.2.1, 14, .inl (fun k => nI (zAc k))))]) (fun i => [(2, .int (nI (needN zAc ai i))), (3, .int (sJ (((ai : Nat) : Int) - ((i : Nat) : Int)))), (0, .ref plq), (1, .int (nI ai))]) (fun i => True) (ai + 1) trivial hP hD hS hl (fun i_1 hi_i_1 hI_i_1 H locs ls hP hD hS hl ih_i_1 => ?_)
  have hP : va_P (sx_D G) vwCl [(plq, .inr (4, [.ref pl0, .ref pl1, .int (nI plN), .ref pl3, .ref pl4, .ref pl5, .ref pl6, .ref pl7, .ref pl8, .ref pl9])), (pl4, .inl (G.2.1, 14, .inl (fun k => nI (zAc k))))] H := hP
  have hD : va_D A [(plq, .inr (4, [.ref pl0, .ref pl1, .int (nI plN), .ref pl3, .ref pl4, .ref pl5, .ref pl6, .ref pl7, .ref pl8, .ref pl9])), (pl4, .inl (G.2.1, 14, .inl (fun k => nI (zAc k))))] := hD
  have hl : lv_has ls 4 [(2, .int (nI (needN zAc ai i_1))), (3, .int (sJ (((ai : Nat) : Int) - ((i_1 : Nat) : Int)))), (0, .ref plq), (1, .int (nI ai))] := hl
  have hI_i_1 : True := hI_i_1
  have h_nb := needN_b h_a h_za i_1
  refine lv_iload_n hx hb dX4_neededFor_6 rfl (lv_at hl 1 rfl) ?_
  refine lv_if_lt (tgt := 34) hx hb dX4_neededFor_7 (by decide) (fun c_2 => ?_) (fun c_2 => ?_)
  · have c_2 : (((ai : Nat) : Int) - ((i_1 : Nat) : Int)) < (0 : Int) := (sJ_lt (a := (((ai : Nat) : Int) - ((i_1 : Nat) : Int))) (b := (0 : Int)) (by omega) (by omega) (by omega) (by omega)).mp c_2
    refine lv_iload_n hx hb dX4_neededFor_34 rfl (lv_at hl 0 rfl) ?_
    exact (sx_iret (v := nI (needN zAc ai i_1)) () hx hb hr rfl hlk hP hD hS (congrArg (fun z => nI (needN zAc ai z)) (by omega)) dX4_neededFor_35 rfl rfl)
  · have c_2 : ¬ ((((ai : Nat) : Int) - ((i_1 : Nat) : Int)) < (0 : Int)) := fun h => c_2 ((sJ_lt (a := (((ai : Nat) : Int) - ((i_1 : Nat) : Int))) (b := (0 : Int)) (by omega) (by omega) (by omega) (by omega)).mpr h)
    have q9 : ((((ai : Nat) : Int) - ((i_1 : Nat) : Int))) = (((ai - i_1 : Nat)) : Int) := by omega
    have hl : lv_has ls 4 [(2, .int (nI (needN zAc ai i_1))), (3, .int (nI (ai - i_1))), (0, .ref plq), (1, .int (nI ai))] := by have h9 := hl; rw [q9] at h9; exact h9
    refine lv_iload_n hx hb dX4_neededFor_10 rfl (lv_at hl 0 rfl) ?_
    refine lv_i2l (v := lN (needN zAc ai i_1)) hx hb dX4_neededFor_11 (nI_l (n := (needN zAc ai i_1)) (by omega)) ?_
    refine lv_iload_n hx hb dX4_neededFor_12 rfl (lv_at hl 1 rfl) ?_
    have hcut : sx_cut [(plq, .inr (4, [.ref pl0, .ref pl1, .int (nI plN), .ref pl3, .ref pl4, .ref pl5, .ref pl6, .ref pl7, .ref pl8, .ref pl9])), (pl4, .inl (G.2.1, 14, .inl (fun k => nI (zAc k))))] [] [(plq, .inr (4, [.ref pl0, .ref pl1, .int (nI plN), .ref pl3, .ref pl4, .ref pl5, .ref pl6, .ref pl7, .ref pl8, .ref pl9])), (pl4, .inl (G.2.1, 14, .inl (fun k => nI (zAc k))))] [] [0, 1] := ⟨rfl, rfl, by decide, by decide, by decide⟩
    refine sx_ki (sx_runSN (As := [.long (lN (needN zAc ai i_1)), .int (nI (ai - i_1))]) (rest := []) F (m_X7_has l G H.size (needN zAc ai i_1) (ai - i_1) (show (needN zAc ai i_1) < 2 ^ 62 from (by first | assumption | omega)) (show (ai - i_1) < 63 from (by first | assumption | omega))) mi_X7_has q498 q549 ⟨⟨Nat.le_of_ble_eq_true rfl, Nat.le_of_ble_eq_true rfl⟩, Nat.le_of_ble_eq_true rfl, Nat.le_of_ble_eq_true rfl⟩ hcut hP hD hS rfl hl.1 rfl (Nat.le_of_ble_eq_true rfl) dX4_neededFor_13) hcut hP hD hS hA (fun r_5 u_3 H locs w_4 hP hD hS => ?_)
    have hP : va_P (sx_D G) vwCl [(plq, .inr (4, [.ref pl0, .ref pl1, .int (nI plN), .ref pl3, .ref pl4, .ref pl5, .ref pl6, .ref pl7, .ref pl8, .ref pl9])), (pl4, .inl (G.2.1, 14, .inl (fun k => nI (zAc k))))] H := hP
    have hD : va_D A [(plq, .inr (4, [.ref pl0, .ref pl1, .int (nI plN), .ref pl3, .ref pl4, .ref pl5, .ref pl6, .ref pl7, .ref pl8, .ref pl9])), (pl4, .inl (G.2.1, 14, .inl (fun k => nI (zAc k))))] := hD
    have w_4 : r_5 = sB ((needN zAc ai i_1).testBit (ai - i_1)) := w_4
    subst w_4
    refine lv_if_eq (tgt := 28) hx hb dX4_neededFor_16 (by decide) (fun c_6 => ?_) (fun c_6 => ?_)
    · have c_6 := sB_0 c_6
      refine lv_iinc (v := sJ (((ai - i_1 : Nat) : Int) + (-1))) (lv' := [(3, .int (sJ (((ai - i_1 : Nat) : Int) + (-1)))), (2, .int (nI (needN zAc ai i_1))), (0, .ref plq), (1, .int (nI ai))]) hx hb dX4_neededFor_28 hl (k := 1) rfl ((congrArg (fun t => sJ ((ai - i_1 : Nat) : Int) + t) (show Int32.ofInt (-1) = sJ (-1) by decide +kernel)).trans (sJ_add ((ai - i_1 : Nat) : Int) (-1))) (by decide) rfl (fun ls hl => ?_)
      refine lv_goto (tgt := 6) hx hb dX4_neededFor_31 (by decide) ?_
      have e9_0 : needN zAc ai (i_1 + 1) = (needN zAc ai i_1) := (by rw [needN_s, if_neg (by rw [c_6]; decide)])
      have e9_1 : ((ai : Nat) : Int) - ((i_1 + 1 : Nat) : Int) = (((ai - i_1 : Nat) : Int) + (-1)) := (by omega)
      have hl : lv_has ls 4 [(2, .int (nI (needN zAc ai (i_1 + 1)))), (3, .int (sJ (((ai : Nat) : Int) - ((i_1 + 1 : Nat) : Int)))), (0, .ref plq), (1, .int (nI ai))] := by rw [e9_0, e9_1]; exact lv_sub hl [1, 0, 2, 3] rfl
      exact ih_i_1 _ _ _ (by omega) trivial hP hD hS hl
    · have c_6 := sB_1 c_6
      refine lv_iload_n hx hb dX4_neededFor_19 rfl (lv_at hl 0 rfl) ?_
      refine lv_aload_n hx hb dX4_neededFor_20 rfl (lv_at hl 2 rfl) ?_
      refine va_get (D := sx_D G) (ci := 4) (v := .ref pl4) (C := RX4) (T := TX4) (N := 10) hx hb hts inX4 hown hK hP 0 rfl rfl 4 (by decide) (hts _ q52) (fun _ h9 => h9) rfl dX4_neededFor_21 ?_
      refine lv_iload_n hx hb dX4_neededFor_24 rfl (lv_at hl 1 rfl) ?_
      refine sx_ild (X := (ai - i_1)) hx hb hK hP 1 rfl (by omega) rfl dX4_neededFor_25 ?_
      have b_7 := h_za (ai - i_1)
      refine lv_ior hx hb dX4_neededFor_26 ?_
      refine sx_topI (sx_or (needN zAc ai i_1) (zAc (ai - i_1))) ?_
      refine lv_istore_n (lv' := [(2, .int (nI ((needN zAc ai i_1) ||| (zAc (ai - i_1))))), (3, .int (nI (ai - i_1))), (0, .ref plq), (1, .int (nI ai))]) hx hb dX4_neededFor_27 rfl hl (by decide) rfl (fun ls hl => ?_)
      refine lv_iinc (v := sJ (((ai - i_1 : Nat) : Int) + (-1))) (lv' := [(3, .int (sJ (((ai - i_1 : Nat) : Int) + (-1)))), (2, .int (nI ((needN zAc ai i_1) ||| (zAc (ai - i_1))))), (0, .ref plq), (1, .int (nI ai))]) hx hb dX4_neededFor_28 hl (k := 1) rfl ((congrArg (fun t => sJ ((ai - i_1 : Nat) : Int) + t) (show Int32.ofInt (-1) = sJ (-1) by decide +kernel)).trans (sJ_add ((ai - i_1 : Nat) : Int) (-1))) (by decide) rfl (fun ls hl => ?_)
      refine lv_goto (tgt := 6) hx hb dX4_neededFor_31 (by decide) ?_
      have e9_0 : needN zAc ai (i_1 + 1) = ((needN zAc ai i_1) ||| (zAc (ai - i_1))) := (by rw [needN_s, if_pos c_6])
      have e9_1 : ((ai : Nat) : Int) - ((i_1 + 1 : Nat) : Int) = (((ai - i_1 : Nat) : Int) + (-1)) := (by omega)
      have hl : lv_has ls 4 [(2, .int (nI (needN zAc ai (i_1 + 1)))), (3, .int (sJ (((ai : Nat) : Int) - ((i_1 + 1 : Nat) : Int)))), (0, .ref plq), (1, .int (nI ai))] := by rw [e9_0, e9_1]; exact lv_sub hl [1, 0, 2, 3] rfl
      exact ih_i_1 _ _ _ (by omega) trivial hP hD hS hl
set_option maxHeartbeats 4000000 in
set_option maxRecDepth 100000 in
theorem m_X4_actionsTouchedBy (l : Launch) (G : sx_G) (sz : Nat) (plq : Nat) (pl0 : Nat) (pl1 : Nat) (plN : Nat) (pl3 : Nat) (pl4 : Nat) (pl5 : Nat) (pl6 : Nat) (pl7 : Nat) (pl8 : Nat) (pl9 : Nat) (zFi : Nat → Nat) (zAc : Nat → Nat) (fi : Nat) (h_pn : plN ≤ 14) (h_zf : ∀ k, zFi k < 256) (h_za : ∀ k, zAc k < 16384) (h_f : fi < 8) : sx_Met l yX4_actionsTouchedBy cX4_actionsTouchedBy 4 (some .int) 1 22 0 0 G [.ref plq, .int (nI fi)] [(plq, .inr (4, [.ref pl0, .ref pl1, .int (nI plN), .ref pl3, .ref pl4, .ref pl5, .ref pl6, .ref pl7, .ref pl8, .ref pl9])), (pl3, .inl (G.2.1, 14, .inl (fun k => nI (zFi k)))), (pl4, .inl (G.2.1, 14, .inl (fun k => nI (zAc k))))] sz (sx_Qi G (fun (r : Int32) (u : Unit) => r = nI (tchN zFi zAc fi plN)) (fun (u : Unit) => [(plq, .inr (4, [.ref pl0, .ref pl1, .int (nI plN), .ref pl3, .ref pl4, .ref pl5, .ref pl6, .ref pl7, .ref pl8, .ref pl9])), (pl3, .inl (G.2.1, 14, .inl (fun k => nI (zFi k)))), (pl4, .inl (G.2.1, 14, .inl (fun k => nI (zAc k))))])) := by
  refine sx_start (by decide) rfl (fun p e s m below meth c A ls F hr hlk hnm hP hD hS hl => ?_)
  obtain ⟨hx, hb, hml, hown, hts, hK, hE, hA⟩ := id F
  have hown : s.vm.findClass RX4 = some m.cls := hown
  generalize hHe : s.heap = H at hP
  have hS : va_S A s.heap H [] := by rw [← hHe]; exact va_S.rf
  have hl : lv_has ls 4 [(0, .ref plq), (1, .int (nI fi))] := hl
  refine lv_iconst (v := 0) hx hb dX4_actionsTouchedBy_0 (by decide) ?_
  refine lv_istore_n (lv' := [(2, .int 0), (0, .ref plq), (1, .int (nI fi))]) hx hb dX4_actionsTouchedBy_1 rfl hl (by decide) rfl (fun ls hl => ?_)
  refine lv_iconst (v := 0) hx hb dX4_actionsTouchedBy_2 (by decide) ?_
  refine lv_istore_n (lv' := [(3, .int 0), (2, .int 0), (0, .ref plq), (1, .int (nI fi))]) hx hb dX4_actionsTouchedBy_3 rfl hl (by decide) rfl (fun ls hl => ?_)
  refine sx_loop (nL := 4) (fun i => [(plq, .inr (4, [.ref pl0, .ref pl1, .int (nI plN), .ref pl3, .ref pl4, .ref pl5, .ref pl6, .ref pl7, .ref pl8, .ref pl9])), (pl3, .inl (G.2.1, 14, .inl (fun k => nI (zFi k)))), (pl4, .inl (G.2.1, 14, .inl (fun k => nI (zAc k))))]) (fun i => [(2, .int (nI (tchN zFi zAc fi i))), (3, .int (nI i)), (0, .ref plq), (1, .int (nI fi))]) (fun i => True) plN trivial hP hD hS (lv_sub hl [1, 0, 2, 3] rfl) (fun i_1 hi_i_1 hI_i_1 H locs ls hP hD hS hl ih_i_1 => ?_)
  have hP : va_P (sx_D G) vwCl [(plq, .inr (4, [.ref pl0, .ref pl1, .int (nI plN), .ref pl3, .ref pl4, .ref pl5, .ref pl6, .ref pl7, .ref pl8, .ref pl9])), (pl3, .inl (G.2.1, 14, .inl (fun k => nI (zFi k)))), (pl4, .inl (G.2.1, 14, .inl (fun k => nI (zAc k))))] H := hP
  have hD : va_D A [(plq, .inr (4, [.ref pl0, .ref pl1, .int (nI plN), .ref pl3, .ref pl4, .ref pl5, .ref pl6, .ref pl7, .ref pl8, .ref pl9])), (pl3, .inl (G.2.1, 14, .inl (fun k => nI (zFi k)))), (pl4, .inl (G.2.1, 14, .inl (fun k => nI (zAc k))))] := hD
  have hl : lv_has ls 4 [(2, .int (nI (tchN zFi zAc fi i_1))), (3, .int (nI i_1)), (0, .ref plq), (1, .int (nI fi))] := hl
  have hI_i_1 : True := hI_i_1
  refine lv_iload_n hx hb dX4_actionsTouchedBy_4 rfl (lv_at hl 1 rfl) ?_
  refine lv_aload_n hx hb dX4_actionsTouchedBy_5 rfl (lv_at hl 2 rfl) ?_
  refine va_get (D := sx_D G) (ci := 4) (v := .int (nI plN)) (C := RX4) (T := TX4) (N := 10) hx hb hts inX4 hown hK hP 0 rfl rfl 2 (by decide) (hts _ q46) (fun _ h9 => h9) rfl dX4_actionsTouchedBy_6 ?_
  refine lv_icmp_ge (tgt := 49) hx hb dX4_actionsTouchedBy_9 (by decide) (fun c_2 => ?_) (fun c_2 => ?_)
  · have c_2 : plN ≤ i_1 := by have h9 : ((plN : Nat) : Int) ≤ ((i_1 : Nat) : Int) := (sJ_le (a := ((plN : Nat) : Int)) (b := ((i_1 : Nat) : Int)) (by omega) (by omega) (by omega) (by omega)).mp c_2; omega
    refine lv_iload_n hx hb dX4_actionsTouchedBy_49 rfl (lv_at hl 0 rfl) ?_
    exact (sx_iret (v := nI (tchN zFi zAc fi i_1)) () hx hb hr rfl hlk hP hD hS (congrArg (fun z => nI (tchN zFi zAc fi z)) (by omega)) dX4_actionsTouchedBy_50 rfl rfl)
  · have c_2 : ¬ (plN ≤ i_1) := by have h9 : ¬ (((plN : Nat) : Int) ≤ ((i_1 : Nat) : Int)) := fun h => c_2 ((sJ_le (a := ((plN : Nat) : Int)) (b := ((i_1 : Nat) : Int)) (by omega) (by omega) (by omega) (by omega)).mpr h); omega
    refine lv_aload_n hx hb dX4_actionsTouchedBy_12 rfl (lv_at hl 2 rfl) ?_
    refine va_get (D := sx_D G) (ci := 4) (v := .ref pl3) (C := RX4) (T := TX4) (N := 10) hx hb hts inX4 hown hK hP 0 rfl rfl 3 (by decide) (hts _ q49) (fun _ h9 => h9) rfl dX4_actionsTouchedBy_13 ?_
    refine lv_iload_n hx hb dX4_actionsTouchedBy_16 rfl (lv_at hl 1 rfl) ?_
    refine sx_ild (X := i_1) hx hb hK hP 1 rfl (by omega) rfl dX4_actionsTouchedBy_17 ?_
    have b_3 := h_zf i_1
    refine lv_i2l (v := lN (zFi i_1)) hx hb dX4_actionsTouchedBy_18 (nI_l (n := (zFi i_1)) (by omega)) ?_
    refine lv_iload_n hx hb dX4_actionsTouchedBy_19 rfl (lv_at hl 3 rfl) ?_
    have hcut : sx_cut [(plq, .inr (4, [.ref pl0, .ref pl1, .int (nI plN), .ref pl3, .ref pl4, .ref pl5, .ref pl6, .ref pl7, .ref pl8, .ref pl9])), (pl3, .inl (G.2.1, 14, .inl (fun k => nI (zFi k)))), (pl4, .inl (G.2.1, 14, .inl (fun k => nI (zAc k))))] [] [(plq, .inr (4, [.ref pl0, .ref pl1, .int (nI plN), .ref pl3, .ref pl4, .ref pl5, .ref pl6, .ref pl7, .ref pl8, .ref pl9])), (pl3, .inl (G.2.1, 14, .inl (fun k => nI (zFi k)))), (pl4, .inl (G.2.1, 14, .inl (fun k => nI (zAc k))))] [] [0, 1, 2] := ⟨rfl, rfl, by decide, by decide, by decide⟩
    refine sx_ki (sx_runSN (As := [.long (lN (zFi i_1)), .int (nI fi)]) (rest := []) F (m_X7_has l G H.size (zFi i_1) fi (show (zFi i_1) < 2 ^ 62 from (by first | assumption | omega)) (show fi < 63 from (by first | assumption | omega))) mi_X7_has q498 q549 ⟨⟨Nat.le_of_ble_eq_true rfl, Nat.le_of_ble_eq_true rfl⟩, Nat.le_of_ble_eq_true rfl, Nat.le_of_ble_eq_true rfl⟩ hcut hP hD hS rfl hl.1 rfl (Nat.le_of_ble_eq_true rfl) dX4_actionsTouchedBy_20) hcut hP hD hS hA (fun r_6 u_4 H locs w_5 hP hD hS => ?_)
    have hP : va_P (sx_D G) vwCl [(plq, .inr (4, [.ref pl0, .ref pl1, .int (nI plN), .ref pl3, .ref pl4, .ref pl5, .ref pl6, .ref pl7, .ref pl8, .ref pl9])), (pl3, .inl (G.2.1, 14, .inl (fun k => nI (zFi k)))), (pl4, .inl (G.2.1, 14, .inl (fun k => nI (zAc k))))] H := hP
    have hD : va_D A [(plq, .inr (4, [.ref pl0, .ref pl1, .int (nI plN), .ref pl3, .ref pl4, .ref pl5, .ref pl6, .ref pl7, .ref pl8, .ref pl9])), (pl3, .inl (G.2.1, 14, .inl (fun k => nI (zFi k)))), (pl4, .inl (G.2.1, 14, .inl (fun k => nI (zAc k))))] := hD
    have w_5 : r_6 = sB ((zFi i_1).testBit fi) := w_5
    subst w_5
    refine lv_if_ne (tgt := 37) hx hb dX4_actionsTouchedBy_23 (by decide) (fun c_7 => ?_) (fun c_7 => ?_)
    · have c_7 := sB_1 c_7
      refine lv_iload_n hx hb dX4_actionsTouchedBy_37 rfl (lv_at hl 0 rfl) ?_
      refine lv_iconst (v := 1) hx hb dX4_actionsTouchedBy_38 (by decide) ?_
      refine lv_iload_n hx hb dX4_actionsTouchedBy_39 rfl (lv_at hl 1 rfl) ?_
      refine lv_ishl hx hb dX4_actionsTouchedBy_40 ?_
      refine sx_topI (sx_shl1 (k := i_1) (by omega)) ?_
      refine lv_ior hx hb dX4_actionsTouchedBy_41 ?_
      refine sx_topI (sx_or (tchN zFi zAc fi i_1) (2 ^ i_1)) ?_
      refine lv_istore_n (lv' := [(2, .int (nI ((tchN zFi zAc fi i_1) ||| (2 ^ i_1)))), (3, .int (nI i_1)), (0, .ref plq), (1, .int (nI fi))]) hx hb dX4_actionsTouchedBy_42 rfl hl (by decide) rfl (fun ls hl => ?_)
      refine lv_iinc (v := nI (i_1 + 1)) (lv' := [(3, .int (nI (i_1 + 1))), (2, .int (nI ((tchN zFi zAc fi i_1) ||| (2 ^ i_1)))), (0, .ref plq), (1, .int (nI fi))]) hx hb dX4_actionsTouchedBy_43 hl (k := 1) rfl ((congrArg (fun t => nI i_1 + t) (show Int32.ofInt 1 = nI 1 by decide +kernel)).trans (nI_add i_1 1)) (by decide) rfl (fun ls hl => ?_)
      refine lv_goto (tgt := 4) hx hb dX4_actionsTouchedBy_46 (by decide) ?_
      have e9_0 : tchN zFi zAc fi (i_1 + 1) = ((tchN zFi zAc fi i_1) ||| (2 ^ i_1)) := (by rw [tchN_s]; simp [c_7])
      have hl : lv_has ls 4 [(2, .int (nI (tchN zFi zAc fi (i_1 + 1)))), (3, .int (nI (i_1 + 1))), (0, .ref plq), (1, .int (nI fi))] := by rw [e9_0]; exact lv_sub hl [1, 0, 2, 3] rfl
      exact ih_i_1 _ _ _ (by omega) trivial hP hD hS hl
    · have c_7 := sB_0 c_7
      refine lv_aload_n hx hb dX4_actionsTouchedBy_26 rfl (lv_at hl 2 rfl) ?_
      refine va_get (D := sx_D G) (ci := 4) (v := .ref pl4) (C := RX4) (T := TX4) (N := 10) hx hb hts inX4 hown hK hP 0 rfl rfl 4 (by decide) (hts _ q52) (fun _ h9 => h9) rfl dX4_actionsTouchedBy_27 ?_
      refine lv_iload_n hx hb dX4_actionsTouchedBy_30 rfl (lv_at hl 1 rfl) ?_
      refine sx_ild (X := i_1) hx hb hK hP 2 rfl (by omega) rfl dX4_actionsTouchedBy_31 ?_
      have b_8 := h_za i_1
      refine lv_iload_n hx hb dX4_actionsTouchedBy_32 rfl (lv_at hl 0 rfl) ?_
      refine lv_iand hx hb dX4_actionsTouchedBy_33 ?_
      refine sx_topI (sx_and (zAc i_1) (tchN zFi zAc fi i_1)) ?_
      refine lv_if_eq (tgt := 43) hx hb dX4_actionsTouchedBy_34 (by decide) (fun c_9 => ?_) (fun c_9 => ?_)
      · have c_9 : ((zAc i_1) &&& (tchN zFi zAc fi i_1)) = 0 := by have h9 : (((zAc i_1) &&& (tchN zFi zAc fi i_1) : Nat) : Int) = (0 : Int) := (sJ_eq (a := (((zAc i_1) &&& (tchN zFi zAc fi i_1) : Nat) : Int)) (b := (0 : Int)) (by have h7 := @and_b _ (tchN zFi zAc fi i_1) _ (h_za i_1); omega) (by have h7 := @and_b _ (tchN zFi zAc fi i_1) _ (h_za i_1); omega) (by have h7 := @and_b _ (tchN zFi zAc fi i_1) _ (h_za i_1); omega) (by have h7 := @and_b _ (tchN zFi zAc fi i_1) _ (h_za i_1); omega)).mp c_9; omega
        refine lv_iinc (v := nI (i_1 + 1)) (lv' := [(3, .int (nI (i_1 + 1))), (2, .int (nI (tchN zFi zAc fi i_1))), (0, .ref plq), (1, .int (nI fi))]) hx hb dX4_actionsTouchedBy_43 hl (k := 1) rfl ((congrArg (fun t => nI i_1 + t) (show Int32.ofInt 1 = nI 1 by decide +kernel)).trans (nI_add i_1 1)) (by decide) rfl (fun ls hl => ?_)
        refine lv_goto (tgt := 4) hx hb dX4_actionsTouchedBy_46 (by decide) ?_
        have e9_0 : tchN zFi zAc fi (i_1 + 1) = (tchN zFi zAc fi i_1) := (by rw [tchN_s]; simp [c_7, c_9])
        have hl : lv_has ls 4 [(2, .int (nI (tchN zFi zAc fi (i_1 + 1)))), (3, .int (nI (i_1 + 1))), (0, .ref plq), (1, .int (nI fi))] := by rw [e9_0]; exact lv_sub hl [1, 0, 2, 3] rfl
        exact ih_i_1 _ _ _ (by omega) trivial hP hD hS hl
      · have c_9 : ¬ (((zAc i_1) &&& (tchN zFi zAc fi i_1)) = 0) := by have h9 : ¬ ((((zAc i_1) &&& (tchN zFi zAc fi i_1) : Nat) : Int) = (0 : Int)) := fun h => c_9 ((sJ_eq (a := (((zAc i_1) &&& (tchN zFi zAc fi i_1) : Nat) : Int)) (b := (0 : Int)) (by have h7 := @and_b _ (tchN zFi zAc fi i_1) _ (h_za i_1); omega) (by have h7 := @and_b _ (tchN zFi zAc fi i_1) _ (h_za i_1); omega) (by have h7 := @and_b _ (tchN zFi zAc fi i_1) _ (h_za i_1); omega) (by have h7 := @and_b _ (tchN zFi zAc fi i_1) _ (h_za i_1); omega)).mpr h); omega
        refine lv_iload_n hx hb dX4_actionsTouchedBy_37 rfl (lv_at hl 0 rfl) ?_
        refine lv_iconst (v := 1) hx hb dX4_actionsTouchedBy_38 (by decide) ?_
        refine lv_iload_n hx hb dX4_actionsTouchedBy_39 rfl (lv_at hl 1 rfl) ?_
        refine lv_ishl hx hb dX4_actionsTouchedBy_40 ?_
        refine sx_topI (sx_shl1 (k := i_1) (by omega)) ?_
        refine lv_ior hx hb dX4_actionsTouchedBy_41 ?_
        refine sx_topI (sx_or (tchN zFi zAc fi i_1) (2 ^ i_1)) ?_
        refine lv_istore_n (lv' := [(2, .int (nI ((tchN zFi zAc fi i_1) ||| (2 ^ i_1)))), (3, .int (nI i_1)), (0, .ref plq), (1, .int (nI fi))]) hx hb dX4_actionsTouchedBy_42 rfl hl (by decide) rfl (fun ls hl => ?_)
        refine lv_iinc (v := nI (i_1 + 1)) (lv' := [(3, .int (nI (i_1 + 1))), (2, .int (nI ((tchN zFi zAc fi i_1) ||| (2 ^ i_1)))), (0, .ref plq), (1, .int (nI fi))]) hx hb dX4_actionsTouchedBy_43 hl (k := 1) rfl ((congrArg (fun t => nI i_1 + t) (show Int32.ofInt 1 = nI 1 by decide +kernel)).trans (nI_add i_1 1)) (by decide) rfl (fun ls hl => ?_)
        refine lv_goto (tgt := 4) hx hb dX4_actionsTouchedBy_46 (by decide) ?_
        have e9_0 : tchN zFi zAc fi (i_1 + 1) = ((tchN zFi zAc fi i_1) ||| (2 ^ i_1)) := (by rw [tchN_s]; simp [c_7, c_9])
        have hl : lv_has ls 4 [(2, .int (nI (tchN zFi zAc fi (i_1 + 1)))), (3, .int (nI (i_1 + 1))), (0, .ref plq), (1, .int (nI fi))] := by rw [e9_0]; exact lv_sub hl [1, 0, 2, 3] rfl
        exact ih_i_1 _ _ _ (by omega) trivial hP hD hS hl
set_option maxHeartbeats 4000000 in
set_option maxRecDepth 100000 in
theorem m_X2_isBetter (l : Launch) (G : sx_G) (sz : Nat) (crq : Nat) (crN : Nat) (cr1 : Nat) (cr2 : Nat) (cr3 : Nat) (cr4 : Nat) (cr5 : Nat) (yTr : Nat → Nat) (yBu : Nat → Nat) (w1 : Nat) (w2 : Nat) (h_tr : ∀ k, yTr k ≤ 100) (h_bu : ∀ k, yBu k ≤ 1000000) (h_cn : crN ≤ 4) (h_1 : w1 < 4) (h_2 : w2 < 4) : sx_Met l yX2_isBetter cX2_isBetter 3 (some .boolean) 0 0 0 0 G [.ref crq, .int (nI w1), .int (nI w2)] [(crq, .inr (2, [.int (nI crN), .ref cr1, .ref cr2, .ref cr3, .ref cr4, .ref cr5])), (cr2, .inl (G.2.1, 4, .inl (fun k => nI (yTr k)))), (cr4, .inl (G.2.1, 4, .inl (fun k => nI (yBu k))))] sz (sx_Qi G (fun (r : Int32) (u : Unit) => r = sB (decide (betP yTr yBu w1 w2))) (fun (u : Unit) => [(crq, .inr (2, [.int (nI crN), .ref cr1, .ref cr2, .ref cr3, .ref cr4, .ref cr5])), (cr2, .inl (G.2.1, 4, .inl (fun k => nI (yTr k)))), (cr4, .inl (G.2.1, 4, .inl (fun k => nI (yBu k))))])) := by
  refine sx_start (by decide) rfl (fun p e s m below meth c A ls F hr hlk hnm hP hD hS hl => ?_)
  obtain ⟨hx, hb, hml, hown, hts, hK, hE, hA⟩ := id F
  have hown : s.vm.findClass RX2 = some m.cls := hown
  generalize hHe : s.heap = H at hP
  have hS : va_S A s.heap H [] := by rw [← hHe]; exact va_S.rf
  have hl : lv_has ls 3 [(0, .ref crq), (1, .int (nI w1)), (2, .int (nI w2))] := hl
  refine lv_aload_n hx hb dX2_isBetter_0 rfl (lv_at hl 0 rfl) ?_
  refine va_get (D := sx_D G) (ci := 2) (v := .ref cr2) (C := RX2) (T := TX2) (N := 6) hx hb hts inX2 hown hK hP 0 rfl rfl 2 (by decide) (hts _ q104) (fun _ h9 => h9) rfl dX2_isBetter_1 ?_
  refine lv_iload_n hx hb dX2_isBetter_4 rfl (lv_at hl 1 rfl) ?_
  refine sx_ild (X := w1) hx hb hK hP 1 rfl (by omega) rfl dX2_isBetter_5 ?_
  have b_1 := h_tr w1
  refine lv_aload_n hx hb dX2_isBetter_6 rfl (lv_at hl 0 rfl) ?_
  refine va_get (D := sx_D G) (ci := 2) (v := .ref cr2) (C := RX2) (T := TX2) (N := 6) hx hb hts inX2 hown hK hP 0 rfl rfl 2 (by decide) (hts _ q104) (fun _ h9 => h9) rfl dX2_isBetter_7 ?_
  refine lv_iload_n hx hb dX2_isBetter_10 rfl (lv_at hl 2 rfl) ?_
  refine sx_ild (X := w2) hx hb hK hP 1 rfl (by omega) rfl dX2_isBetter_11 ?_
  have b_2 := h_tr w2
  refine lv_icmp_gt (tgt := 45) hx hb dX2_isBetter_12 (by decide) (fun c_3 => ?_) (fun c_3 => ?_)
  · have c_3 : (yTr w2) < (yTr w1) := by have h9 : ((yTr w2 : Nat) : Int) < ((yTr w1 : Nat) : Int) := (sJ_lt (a := ((yTr w2 : Nat) : Int)) (b := ((yTr w1 : Nat) : Int)) (by omega) (by omega) (by omega) (by omega)).mp c_3; omega
    refine lv_iconst (v := 1) hx hb dX2_isBetter_45 (by decide) ?_
    refine lv_goto (tgt := 50) hx hb dX2_isBetter_46 (by decide) ?_
    exact (sx_iret (v := 1) () hx hb hr (by decide) hlk hP hD hS (sB_p (by unfold betP; omega)) dX2_isBetter_50 rfl rfl)
  · have c_3 : ¬ ((yTr w2) < (yTr w1)) := by have h9 : ¬ (((yTr w2 : Nat) : Int) < ((yTr w1 : Nat) : Int)) := fun h => c_3 ((sJ_lt (a := ((yTr w2 : Nat) : Int)) (b := ((yTr w1 : Nat) : Int)) (by omega) (by omega) (by omega) (by omega)).mpr h); omega
    refine lv_aload_n hx hb dX2_isBetter_15 rfl (lv_at hl 0 rfl) ?_
    refine va_get (D := sx_D G) (ci := 2) (v := .ref cr2) (C := RX2) (T := TX2) (N := 6) hx hb hts inX2 hown hK hP 0 rfl rfl 2 (by decide) (hts _ q104) (fun _ h9 => h9) rfl dX2_isBetter_16 ?_
    refine lv_iload_n hx hb dX2_isBetter_19 rfl (lv_at hl 1 rfl) ?_
    refine sx_ild (X := w1) hx hb hK hP 1 rfl (by omega) rfl dX2_isBetter_20 ?_
    have b_4 := h_tr w1
    refine lv_aload_n hx hb dX2_isBetter_21 rfl (lv_at hl 0 rfl) ?_
    refine va_get (D := sx_D G) (ci := 2) (v := .ref cr2) (C := RX2) (T := TX2) (N := 6) hx hb hts inX2 hown hK hP 0 rfl rfl 2 (by decide) (hts _ q104) (fun _ h9 => h9) rfl dX2_isBetter_22 ?_
    refine lv_iload_n hx hb dX2_isBetter_25 rfl (lv_at hl 2 rfl) ?_
    refine sx_ild (X := w2) hx hb hK hP 1 rfl (by omega) rfl dX2_isBetter_26 ?_
    have b_5 := h_tr w2
    refine lv_icmp_ne (tgt := 49) hx hb dX2_isBetter_27 (by decide) (fun c_6 => ?_) (fun c_6 => ?_)
    · have c_6 : ¬ ((yTr w1) = (yTr w2)) := by have h9 : ¬ (((yTr w1 : Nat) : Int) = ((yTr w2 : Nat) : Int)) := fun h => c_6 ((sJ_eq (a := ((yTr w1 : Nat) : Int)) (b := ((yTr w2 : Nat) : Int)) (by omega) (by omega) (by omega) (by omega)).mpr h); omega
      refine lv_iconst (v := 0) hx hb dX2_isBetter_49 (by decide) ?_
      exact (sx_iret (v := 0) () hx hb hr (by decide) hlk hP hD hS (sB_n (by unfold betP; omega)) dX2_isBetter_50 rfl rfl)
    · have c_6 : (yTr w1) = (yTr w2) := by have h9 : ((yTr w1 : Nat) : Int) = ((yTr w2 : Nat) : Int) := (sJ_eq (a := ((yTr w1 : Nat) : Int)) (b := ((yTr w2 : Nat) : Int)) (by omega) (by omega) (by omega) (by omega)).mp c_6; omega
      refine lv_aload_n hx hb dX2_isBetter_30 rfl (lv_at hl 0 rfl) ?_
      refine va_get (D := sx_D G) (ci := 2) (v := .ref cr4) (C := RX2) (T := TX2) (N := 6) hx hb hts inX2 hown hK hP 0 rfl rfl 4 (by decide) (hts _ q110) (fun _ h9 => h9) rfl dX2_isBetter_31 ?_
      refine lv_iload_n hx hb dX2_isBetter_34 rfl (lv_at hl 1 rfl) ?_
      refine sx_ild (X := w1) hx hb hK hP 2 rfl (by omega) rfl dX2_isBetter_35 ?_
      have b_7 := h_bu w1
      refine lv_aload_n hx hb dX2_isBetter_36 rfl (lv_at hl 0 rfl) ?_
      refine va_get (D := sx_D G) (ci := 2) (v := .ref cr4) (C := RX2) (T := TX2) (N := 6) hx hb hts inX2 hown hK hP 0 rfl rfl 4 (by decide) (hts _ q110) (fun _ h9 => h9) rfl dX2_isBetter_37 ?_
      refine lv_iload_n hx hb dX2_isBetter_40 rfl (lv_at hl 2 rfl) ?_
      refine sx_ild (X := w2) hx hb hK hP 2 rfl (by omega) rfl dX2_isBetter_41 ?_
      have b_8 := h_bu w2
      refine lv_icmp_ge (tgt := 49) hx hb dX2_isBetter_42 (by decide) (fun c_9 => ?_) (fun c_9 => ?_)
      · have c_9 : (yBu w2) ≤ (yBu w1) := by have h9 : ((yBu w2 : Nat) : Int) ≤ ((yBu w1 : Nat) : Int) := (sJ_le (a := ((yBu w2 : Nat) : Int)) (b := ((yBu w1 : Nat) : Int)) (by omega) (by omega) (by omega) (by omega)).mp c_9; omega
        refine lv_iconst (v := 0) hx hb dX2_isBetter_49 (by decide) ?_
        exact (sx_iret (v := 0) () hx hb hr (by decide) hlk hP hD hS (sB_n (by unfold betP; omega)) dX2_isBetter_50 rfl rfl)
      · have c_9 : ¬ ((yBu w2) ≤ (yBu w1)) := by have h9 : ¬ (((yBu w2 : Nat) : Int) ≤ ((yBu w1 : Nat) : Int)) := fun h => c_9 ((sJ_le (a := ((yBu w2 : Nat) : Int)) (b := ((yBu w1 : Nat) : Int)) (by omega) (by omega) (by omega) (by omega)).mpr h); omega
        refine lv_iconst (v := 1) hx hb dX2_isBetter_45 (by decide) ?_
        refine lv_goto (tgt := 50) hx hb dX2_isBetter_46 (by decide) ?_
        exact (sx_iret (v := 1) () hx hb hr (by decide) hlk hP hD hS (sB_p (by unfold betP; omega)) dX2_isBetter_50 rfl rfl)
set_option maxHeartbeats 4000000 in
set_option maxRecDepth 100000 in
theorem m_X2_choose (l : Launch) (G : sx_G) (sz : Nat) (crq : Nat) (crN : Nat) (cr1 : Nat) (cr2 : Nat) (cr3 : Nat) (cr4 : Nat) (cr5 : Nat) (yTr : Nat → Nat) (yBu : Nat → Nat) (ex : Int) (h_tr : ∀ k, yTr k ≤ 100) (h_bu : ∀ k, yBu k ≤ 1000000) (h_cn : crN ≤ 4) (h_x : -1 ≤ ex ∧ ex ≤ 3) : sx_Met l yX2_choose cX2_choose 4 (some .int) 1 22 0 0 G [.ref crq, .int (sJ ex)] [(crq, .inr (2, [.int (nI crN), .ref cr1, .ref cr2, .ref cr3, .ref cr4, .ref cr5])), (cr2, .inl (G.2.1, 4, .inl (fun k => nI (yTr k)))), (cr4, .inl (G.2.1, 4, .inl (fun k => nI (yBu k))))] sz (sx_Qi G (fun (r : Int32) (u : Unit) => r = sJ (((choN yTr yBu ex crN : Nat) : Int) - 1)) (fun (u : Unit) => [(crq, .inr (2, [.int (nI crN), .ref cr1, .ref cr2, .ref cr3, .ref cr4, .ref cr5])), (cr2, .inl (G.2.1, 4, .inl (fun k => nI (yTr k)))), (cr4, .inl (G.2.1, 4, .inl (fun k => nI (yBu k))))])) := by
  refine sx_start (by decide) rfl (fun p e s m below meth c A ls F hr hlk hnm hP hD hS hl => ?_)
  obtain ⟨hx, hb, hml, hown, hts, hK, hE, hA⟩ := id F
  have hown : s.vm.findClass RX2 = some m.cls := hown
  generalize hHe : s.heap = H at hP
  have hS : va_S A s.heap H [] := by rw [← hHe]; exact va_S.rf
  have hl : lv_has ls 4 [(0, .ref crq), (1, .int (sJ ex))] := hl
  refine lv_iconst (v := (-1)) hx hb dX2_choose_0 (by decide) ?_
  refine sx_topI (show ((-1) : Int32) = sJ ((-1)) by decide +kernel) ?_
  refine lv_istore_n (lv' := [(2, .int (sJ (-1))), (0, .ref crq), (1, .int (sJ ex))]) hx hb dX2_choose_1 rfl hl (by decide) rfl (fun ls hl => ?_)
  refine lv_iconst (v := 0) hx hb dX2_choose_2 (by decide) ?_
  refine lv_istore_n (lv' := [(3, .int 0), (2, .int (sJ (-1))), (0, .ref crq), (1, .int (sJ ex))]) hx hb dX2_choose_3 rfl hl (by decide) rfl (fun ls hl => ?_)
  have hl : lv_has ls 4 [(2, .int (sJ (((choN yTr yBu ex 0 : Nat) : Int) - 1))), (3, .int (nI 0)), (0, .ref crq), (1, .int (sJ ex))] := by rw [show (((choN yTr yBu ex 0 : Nat) : Int) - 1) = -1 from rfl]; exact lv_sub hl [1, 0, 2, 3] rfl
  refine sx_loop (nL := 4) (fun i => [(crq, .inr (2, [.int (nI crN), .ref cr1, .ref cr2, .ref cr3, .ref cr4, .ref cr5])), (cr2, .inl (G.2.1, 4, .inl (fun k => nI (yTr k)))), (cr4, .inl (G.2.1, 4, .inl (fun k => nI (yBu k))))]) (fun i => [(2, .int (sJ (((choN yTr yBu ex i : Nat) : Int) - 1))), (3, .int (nI i)), (0, .ref crq), (1, .int (sJ ex))]) (fun i => True) crN trivial hP hD hS hl (fun i_1 hi_i_1 hI_i_1 H locs ls hP hD hS hl ih_i_1 => ?_)
  have hP : va_P (sx_D G) vwCl [(crq, .inr (2, [.int (nI crN), .ref cr1, .ref cr2, .ref cr3, .ref cr4, .ref cr5])), (cr2, .inl (G.2.1, 4, .inl (fun k => nI (yTr k)))), (cr4, .inl (G.2.1, 4, .inl (fun k => nI (yBu k))))] H := hP
  have hD : va_D A [(crq, .inr (2, [.int (nI crN), .ref cr1, .ref cr2, .ref cr3, .ref cr4, .ref cr5])), (cr2, .inl (G.2.1, 4, .inl (fun k => nI (yTr k)))), (cr4, .inl (G.2.1, 4, .inl (fun k => nI (yBu k))))] := hD
  have hl : lv_has ls 4 [(2, .int (sJ (((choN yTr yBu ex i_1 : Nat) : Int) - 1))), (3, .int (nI i_1)), (0, .ref crq), (1, .int (sJ ex))] := hl
  have hI_i_1 : True := hI_i_1
  have h_le := choN_le yTr yBu ex i_1
  refine lv_iload_n hx hb dX2_choose_4 rfl (lv_at hl 1 rfl) ?_
  refine lv_aload_n hx hb dX2_choose_5 rfl (lv_at hl 2 rfl) ?_
  refine va_get (D := sx_D G) (ci := 2) (v := .int (nI crN)) (C := RX2) (T := TX2) (N := 6) hx hb hts inX2 hown hK hP 0 rfl rfl 0 (by decide) (hts _ q100) (fun _ h9 => h9) rfl dX2_choose_6 ?_
  refine lv_icmp_ge (tgt := 50) hx hb dX2_choose_9 (by decide) (fun c_2 => ?_) (fun c_2 => ?_)
  · have c_2 : crN ≤ i_1 := by have h9 : ((crN : Nat) : Int) ≤ ((i_1 : Nat) : Int) := (sJ_le (a := ((crN : Nat) : Int)) (b := ((i_1 : Nat) : Int)) (by omega) (by omega) (by omega) (by omega)).mp c_2; omega
    refine lv_iload_n hx hb dX2_choose_50 rfl (lv_at hl 0 rfl) ?_
    exact (sx_iret (v := sJ (((choN yTr yBu ex i_1 : Nat) : Int) - 1)) () hx hb hr rfl hlk hP hD hS (congrArg (fun z => sJ (((choN yTr yBu ex z : Nat) : Int) - 1)) (by omega)) dX2_choose_51 rfl rfl)
  · have c_2 : ¬ (crN ≤ i_1) := by have h9 : ¬ (((crN : Nat) : Int) ≤ ((i_1 : Nat) : Int)) := fun h => c_2 ((sJ_le (a := ((crN : Nat) : Int)) (b := ((i_1 : Nat) : Int)) (by omega) (by omega) (by omega) (by omega)).mpr h); omega
    refine lv_iload_n hx hb dX2_choose_12 rfl (lv_at hl 1 rfl) ?_
    refine lv_iload_n hx hb dX2_choose_13 rfl (lv_at hl 3 rfl) ?_
    refine lv_icmp_eq (tgt := 44) hx hb dX2_choose_14 (by decide) (fun c_3 => ?_) (fun c_3 => ?_)
    · have c_3 : ((i_1 : Nat) : Int) = ex := (sJ_eq (a := ((i_1 : Nat) : Int)) (b := ex) (by omega) (by omega) (by omega) (by omega)).mp c_3
      refine lv_iinc (v := nI (i_1 + 1)) (lv' := [(3, .int (nI (i_1 + 1))), (2, .int (sJ (((choN yTr yBu ex i_1 : Nat) : Int) - 1))), (0, .ref crq), (1, .int (sJ ex))]) hx hb dX2_choose_44 hl (k := 1) rfl ((congrArg (fun t => nI i_1 + t) (show Int32.ofInt 1 = nI 1 by decide +kernel)).trans (nI_add i_1 1)) (by decide) rfl (fun ls hl => ?_)
      refine lv_goto (tgt := 4) hx hb dX2_choose_47 (by decide) ?_
      have e9_0 : ((choN yTr yBu ex (i_1 + 1) : Nat) : Int) - 1 = (((choN yTr yBu ex i_1 : Nat) : Int) - 1) := (by have k9 : choN yTr yBu ex (i_1 + 1) = choN yTr yBu ex i_1 := (choN_s _ _ _ _).trans (if_neg (fun h => h.1.1 c_3)); omega)
      have hl : lv_has ls 4 [(2, .int (sJ (((choN yTr yBu ex (i_1 + 1) : Nat) : Int) - 1))), (3, .int (nI (i_1 + 1))), (0, .ref crq), (1, .int (sJ ex))] := by rw [e9_0]; exact lv_sub hl [1, 0, 2, 3] rfl
      exact ih_i_1 _ _ _ (by omega) trivial hP hD hS hl
    · have c_3 : ¬ (((i_1 : Nat) : Int) = ex) := fun h => c_3 ((sJ_eq (a := ((i_1 : Nat) : Int)) (b := ex) (by omega) (by omega) (by omega) (by omega)).mpr h)
      refine lv_aload_n hx hb dX2_choose_17 rfl (lv_at hl 2 rfl) ?_
      refine va_get (D := sx_D G) (ci := 2) (v := .ref cr2) (C := RX2) (T := TX2) (N := 6) hx hb hts inX2 hown hK hP 0 rfl rfl 2 (by decide) (hts _ q104) (fun _ h9 => h9) rfl dX2_choose_18 ?_
      refine lv_iload_n hx hb dX2_choose_21 rfl (lv_at hl 1 rfl) ?_
      refine sx_ild (X := i_1) hx hb hK hP 1 rfl (by omega) rfl dX2_choose_22 ?_
      have b_4 := h_tr i_1
      refine lv_bipush (v := 20) hx hb dX2_choose_23 (by decide) ?_
      refine lv_icmp_lt (tgt := 44) hx hb dX2_choose_25 (by decide) (fun c_5 => ?_) (fun c_5 => ?_)
      · have c_5 : (yTr i_1) < 20 := by have h9 : ((yTr i_1 : Nat) : Int) < (20 : Int) := (sJ_lt (a := ((yTr i_1 : Nat) : Int)) (b := (20 : Int)) (by omega) (by omega) (by omega) (by omega)).mp c_5; omega
        refine lv_iinc (v := nI (i_1 + 1)) (lv' := [(3, .int (nI (i_1 + 1))), (2, .int (sJ (((choN yTr yBu ex i_1 : Nat) : Int) - 1))), (0, .ref crq), (1, .int (sJ ex))]) hx hb dX2_choose_44 hl (k := 1) rfl ((congrArg (fun t => nI i_1 + t) (show Int32.ofInt 1 = nI 1 by decide +kernel)).trans (nI_add i_1 1)) (by decide) rfl (fun ls hl => ?_)
        refine lv_goto (tgt := 4) hx hb dX2_choose_47 (by decide) ?_
        have e9_0 : ((choN yTr yBu ex (i_1 + 1) : Nat) : Int) - 1 = (((choN yTr yBu ex i_1 : Nat) : Int) - 1) := (by have k9 : choN yTr yBu ex (i_1 + 1) = choN yTr yBu ex i_1 := (choN_s _ _ _ _).trans (if_neg (fun h => by have h9 := h.1.2; omega)); omega)
        have hl : lv_has ls 4 [(2, .int (sJ (((choN yTr yBu ex (i_1 + 1) : Nat) : Int) - 1))), (3, .int (nI (i_1 + 1))), (0, .ref crq), (1, .int (sJ ex))] := by rw [e9_0]; exact lv_sub hl [1, 0, 2, 3] rfl
        exact ih_i_1 _ _ _ (by omega) trivial hP hD hS hl
      · have c_5 : ¬ ((yTr i_1) < 20) := by have h9 : ¬ (((yTr i_1 : Nat) : Int) < (20 : Int)) := fun h => c_5 ((sJ_lt (a := ((yTr i_1 : Nat) : Int)) (b := (20 : Int)) (by omega) (by omega) (by omega) (by omega)).mpr h); omega
        refine lv_iload_n hx hb dX2_choose_28 rfl (lv_at hl 0 rfl) ?_
        refine lv_iconst (v := (-1)) hx hb dX2_choose_29 (by decide) ?_
        refine sx_topI (show ((-1) : Int32) = sJ ((-1)) by decide +kernel) ?_
        refine lv_icmp_eq (tgt := 42) hx hb dX2_choose_30 (by decide) (fun c_6 => ?_) (fun c_6 => ?_)
        · have c_6 : (((choN yTr yBu ex i_1 : Nat) : Int) - 1) = (-1) := (sJ_eq (a := (((choN yTr yBu ex i_1 : Nat) : Int) - 1)) (b := (-1)) (by omega) (by omega) (by omega) (by omega)).mp c_6
          refine lv_iload_n hx hb dX2_choose_42 rfl (lv_at hl 1 rfl) ?_
          refine lv_istore_n (lv' := [(2, .int (nI i_1)), (3, .int (nI i_1)), (0, .ref crq), (1, .int (sJ ex))]) hx hb dX2_choose_43 rfl hl (by decide) rfl (fun ls hl => ?_)
          refine lv_iinc (v := nI (i_1 + 1)) (lv' := [(3, .int (nI (i_1 + 1))), (2, .int (nI i_1)), (0, .ref crq), (1, .int (sJ ex))]) hx hb dX2_choose_44 hl (k := 1) rfl ((congrArg (fun t => nI i_1 + t) (show Int32.ofInt 1 = nI 1 by decide +kernel)).trans (nI_add i_1 1)) (by decide) rfl (fun ls hl => ?_)
          refine lv_goto (tgt := 4) hx hb dX2_choose_47 (by decide) ?_
          have e9_0 : ((choN yTr yBu ex (i_1 + 1) : Nat) : Int) - 1 = ((i_1 : Nat) : Int) := (by have k9 : choN yTr yBu ex (i_1 + 1) = i_1 + 1 := (choN_s _ _ _ _).trans (if_pos ⟨⟨c_3, by omega⟩, Or.inl (by omega)⟩); omega)
          have hl : lv_has ls 4 [(2, .int (sJ (((choN yTr yBu ex (i_1 + 1) : Nat) : Int) - 1))), (3, .int (nI (i_1 + 1))), (0, .ref crq), (1, .int (sJ ex))] := by rw [e9_0]; exact lv_sub hl [1, 0, 2, 3] rfl
          exact ih_i_1 _ _ _ (by omega) trivial hP hD hS hl
        · have c_6 : ¬ ((((choN yTr yBu ex i_1 : Nat) : Int) - 1) = (-1)) := fun h => c_6 ((sJ_eq (a := (((choN yTr yBu ex i_1 : Nat) : Int) - 1)) (b := (-1)) (by omega) (by omega) (by omega) (by omega)).mpr h)
          have q9 : (((choN yTr yBu ex i_1 : Nat) : Int) - 1) = (((choN yTr yBu ex i_1 - 1 : Nat)) : Int) := by omega
          have hl : lv_has ls 4 [(2, .int (nI (choN yTr yBu ex i_1 - 1))), (3, .int (nI i_1)), (0, .ref crq), (1, .int (sJ ex))] := by have h9 := hl; rw [q9] at h9; exact h9
          refine lv_aload_n hx hb dX2_choose_33 rfl (lv_at hl 2 rfl) ?_
          refine lv_iload_n hx hb dX2_choose_34 rfl (lv_at hl 1 rfl) ?_
          refine lv_iload_n hx hb dX2_choose_35 rfl (lv_at hl 0 rfl) ?_
          have hcut : sx_cut [(crq, .inr (2, [.int (nI crN), .ref cr1, .ref cr2, .ref cr3, .ref cr4, .ref cr5])), (cr2, .inl (G.2.1, 4, .inl (fun k => nI (yTr k)))), (cr4, .inl (G.2.1, 4, .inl (fun k => nI (yBu k))))] [(crq, .inr (2, [.int (nI crN), .ref cr1, .ref cr2, .ref cr3, .ref cr4, .ref cr5])), (cr2, .inl (G.2.1, 4, .inl (fun k => nI (yTr k)))), (cr4, .inl (G.2.1, 4, .inl (fun k => nI (yBu k))))] [] [0, 1, 2] [] := ⟨rfl, rfl, by decide, by decide, by decide⟩
          refine sx_ki (sx_runV (As := [.int (nI i_1), .int (nI (choN yTr yBu ex i_1 - 1))]) (rest := []) F (m_X2_isBetter l G H.size crq crN cr1 cr2 cr3 cr4 cr5 yTr yBu i_1 (choN yTr yBu ex i_1 - 1) (show ∀ k, yTr k ≤ 100 from (by first | assumption | omega)) (show ∀ k, yBu k ≤ 1000000 from (by first | assumption | omega)) (show crN ≤ 4 from (by first | assumption | omega)) (show i_1 < 4 from (by first | assumption | omega)) (show (choN yTr yBu ex i_1 - 1) < 4 from (by first | assumption | omega))) mi_X2_isBetter q578 qs_X2_isBetter q576 ⟨⟨Nat.le_of_ble_eq_true rfl, Nat.le_of_ble_eq_true rfl⟩, Nat.le_of_ble_eq_true rfl, Nat.le_of_ble_eq_true rfl⟩ hcut hP hD hS 0 2 rfl rfl rfl hl.1 rfl (Nat.le_of_ble_eq_true rfl) dX2_choose_36) hcut hP hD hS hA (fun r_9 u_7 H locs w_8 hP hD hS => ?_)
          have hP : va_P (sx_D G) vwCl [(crq, .inr (2, [.int (nI crN), .ref cr1, .ref cr2, .ref cr3, .ref cr4, .ref cr5])), (cr2, .inl (G.2.1, 4, .inl (fun k => nI (yTr k)))), (cr4, .inl (G.2.1, 4, .inl (fun k => nI (yBu k))))] H := hP
          have hD : va_D A [(crq, .inr (2, [.int (nI crN), .ref cr1, .ref cr2, .ref cr3, .ref cr4, .ref cr5])), (cr2, .inl (G.2.1, 4, .inl (fun k => nI (yTr k)))), (cr4, .inl (G.2.1, 4, .inl (fun k => nI (yBu k))))] := hD
          have w_8 : r_9 = sB (decide (betP yTr yBu i_1 (choN yTr yBu ex i_1 - 1))) := w_8
          subst w_8
          refine lv_if_eq (tgt := 44) hx hb dX2_choose_39 (by decide) (fun c_10 => ?_) (fun c_10 => ?_)
          · have c_10 := of_decide_eq_false (sB_0 c_10)
            refine lv_iinc (v := nI (i_1 + 1)) (lv' := [(3, .int (nI (i_1 + 1))), (2, .int (nI (choN yTr yBu ex i_1 - 1))), (0, .ref crq), (1, .int (sJ ex))]) hx hb dX2_choose_44 hl (k := 1) rfl ((congrArg (fun t => nI i_1 + t) (show Int32.ofInt 1 = nI 1 by decide +kernel)).trans (nI_add i_1 1)) (by decide) rfl (fun ls hl => ?_)
            refine lv_goto (tgt := 4) hx hb dX2_choose_47 (by decide) ?_
            have e9_0 : ((choN yTr yBu ex (i_1 + 1) : Nat) : Int) - 1 = ((choN yTr yBu ex i_1 - 1 : Nat) : Int) := (by have k9 : choN yTr yBu ex (i_1 + 1) = choN yTr yBu ex i_1 := (choN_s _ _ _ _).trans (if_neg (fun h => h.2.elim (fun q => by omega) c_10)); omega)
            have hl : lv_has ls 4 [(2, .int (sJ (((choN yTr yBu ex (i_1 + 1) : Nat) : Int) - 1))), (3, .int (nI (i_1 + 1))), (0, .ref crq), (1, .int (sJ ex))] := by rw [e9_0]; exact lv_sub hl [1, 0, 2, 3] rfl
            exact ih_i_1 _ _ _ (by omega) trivial hP hD hS hl
          · have c_10 := of_decide_eq_true (sB_1 c_10)
            refine lv_iload_n hx hb dX2_choose_42 rfl (lv_at hl 1 rfl) ?_
            refine lv_istore_n (lv' := [(2, .int (nI i_1)), (3, .int (nI i_1)), (0, .ref crq), (1, .int (sJ ex))]) hx hb dX2_choose_43 rfl hl (by decide) rfl (fun ls hl => ?_)
            refine lv_iinc (v := nI (i_1 + 1)) (lv' := [(3, .int (nI (i_1 + 1))), (2, .int (nI i_1)), (0, .ref crq), (1, .int (sJ ex))]) hx hb dX2_choose_44 hl (k := 1) rfl ((congrArg (fun t => nI i_1 + t) (show Int32.ofInt 1 = nI 1 by decide +kernel)).trans (nI_add i_1 1)) (by decide) rfl (fun ls hl => ?_)
            refine lv_goto (tgt := 4) hx hb dX2_choose_47 (by decide) ?_
            have e9_0 : ((choN yTr yBu ex (i_1 + 1) : Nat) : Int) - 1 = ((i_1 : Nat) : Int) := (by have k9 : choN yTr yBu ex (i_1 + 1) = i_1 + 1 := (choN_s _ _ _ _).trans (if_pos ⟨⟨c_3, by omega⟩, Or.inr c_10⟩); omega)
            have hl : lv_has ls 4 [(2, .int (sJ (((choN yTr yBu ex (i_1 + 1) : Nat) : Int) - 1))), (3, .int (nI (i_1 + 1))), (0, .ref crq), (1, .int (sJ ex))] := by rw [e9_0]; exact lv_sub hl [1, 0, 2, 3] rfl
            exact ih_i_1 _ _ _ (by omega) trivial hP hD hS hl
set_option maxHeartbeats 4000000 in
set_option maxRecDepth 100000 in
theorem m_X2_runOnce (l : Launch) (G : sx_G) (sz : Nat) (crq : Nat) (crN : Nat) (cr1 : Nat) (cr2 : Nat) (cr3 : Nat) (cr4 : Nat) (cr5 : Nat) (yFa : Nat → Nat) (yRu : Nat → Nat) (yBu : Nat → Nat) (wi : Nat) (co : Nat) (cp : Nat) (h_fa : ∀ k, yFa k ≤ 9) (h_ru : ∀ k, yRu k ≤ 1000000) (h_w : wi < 4) (h_cp : cp ≤ 996) : sx_Met l yX2_runOnce cX2_runOnce 5 (some .int) 0 0 0 0 G [.ref crq, .int (nI wi), .int (nI co), .int (nI cp)] [(crq, .inr (2, [.int (nI crN), .ref cr1, .ref cr2, .ref cr3, .ref cr4, .ref cr5])), (cr1, .inl (G.2.1, 4, .inl (fun k => nI (yFa k)))), (cr3, .inl (G.2.1, 4, .inl (fun k => nI (yRu k)))), (cr4, .inl (G.2.1, 4, .inl (fun k => nI (yBu k))))] sz (sx_Qi G (fun (r : Int32) (u : Unit) => r = nI (runN yFa yRu wi cp)) (fun (u : Unit) => [(crq, .inr (2, [.int (nI crN), .ref cr1, .ref cr2, .ref cr3, .ref cr4, .ref cr5])), (cr1, .inl (G.2.1, 4, .inl (fun k => nI (yFa k)))), (cr3, .inl (G.2.1, 4, .inl (fun k => nI ((sU yRu wi (yRu wi + 1)) k)))), (cr4, .inl (G.2.1, 4, .inl (fun k => nI ((sU yBu wi (yBu wi + co)) k))))])) := by
  refine sx_start (by decide) rfl (fun p e s m below meth c A ls F hr hlk hnm hP hD hS hl => ?_)
  obtain ⟨hx, hb, hml, hown, hts, hK, hE, hA⟩ := id F
  have hown : s.vm.findClass RX2 = some m.cls := hown
  generalize hHe : s.heap = H at hP
  have hS : va_S A s.heap H [] := by rw [← hHe]; exact va_S.rf
  have hl : lv_has ls 5 [(0, .ref crq), (1, .int (nI wi)), (2, .int (nI co)), (3, .int (nI cp))] := hl
  refine lv_aload_n hx hb dX2_runOnce_0 rfl (lv_at hl 0 rfl) ?_
  refine va_get (D := sx_D G) (ci := 2) (v := .ref cr3) (C := RX2) (T := TX2) (N := 6) hx hb hts inX2 hown hK hP 0 rfl rfl 3 (by decide) (hts _ q107) (fun _ h9 => h9) rfl dX2_runOnce_1 ?_
  refine lv_iload_n hx hb dX2_runOnce_4 rfl (lv_at hl 1 rfl) ?_
  refine lv_dup2_11 hx hb dX2_runOnce_5 rfl rfl ?_
  refine sx_ild (X := wi) hx hb hK hP 2 rfl (by omega) rfl dX2_runOnce_6 ?_
  have b_1 := h_ru wi
  refine lv_iconst (v := 1) hx hb dX2_runOnce_7 (by decide) ?_
  refine lv_iadd hx hb dX2_runOnce_8 ?_
  refine sx_topI (nI_add (yRu wi) 1) ?_
  refine sx_istN (X := wi) (v := ((yRu wi) + 1)) (f := yRu) hx hb hK hP hD hS 2 rfl (by omega) rfl dX2_runOnce_9 (fun H locs hP hD hS => ?_)
  have hP : va_P (sx_D G) vwCl [(crq, .inr (2, [.int (nI crN), .ref cr1, .ref cr2, .ref cr3, .ref cr4, .ref cr5])), (cr1, .inl (G.2.1, 4, .inl (fun k => nI (yFa k)))), (cr3, .inl (G.2.1, 4, .inl (fun k => nI ((sU yRu wi ((yRu wi) + 1)) k)))), (cr4, .inl (G.2.1, 4, .inl (fun k => nI (yBu k))))] H := hP
  have hD : va_D A [(crq, .inr (2, [.int (nI crN), .ref cr1, .ref cr2, .ref cr3, .ref cr4, .ref cr5])), (cr1, .inl (G.2.1, 4, .inl (fun k => nI (yFa k)))), (cr3, .inl (G.2.1, 4, .inl (fun k => nI ((sU yRu wi ((yRu wi) + 1)) k)))), (cr4, .inl (G.2.1, 4, .inl (fun k => nI (yBu k))))] := hD
  refine lv_aload_n hx hb dX2_runOnce_10 rfl (lv_at hl 0 rfl) ?_
  refine va_get (D := sx_D G) (ci := 2) (v := .ref cr4) (C := RX2) (T := TX2) (N := 6) hx hb hts inX2 hown hK hP 0 rfl rfl 4 (by decide) (hts _ q110) (fun _ h9 => h9) rfl dX2_runOnce_11 ?_
  refine lv_iload_n hx hb dX2_runOnce_14 rfl (lv_at hl 1 rfl) ?_
  refine lv_dup2_11 hx hb dX2_runOnce_15 rfl rfl ?_
  refine sx_ild (X := wi) hx hb hK hP 3 rfl (by omega) rfl dX2_runOnce_16 ?_
  refine lv_iload_n hx hb dX2_runOnce_17 rfl (lv_at hl 2 rfl) ?_
  refine lv_iadd hx hb dX2_runOnce_18 ?_
  refine sx_topI (nI_add (yBu wi) co) ?_
  refine sx_istN (X := wi) (v := ((yBu wi) + co)) (f := yBu) hx hb hK hP hD hS 3 rfl (by omega) rfl dX2_runOnce_19 (fun H locs hP hD hS => ?_)
  have hP : va_P (sx_D G) vwCl [(crq, .inr (2, [.int (nI crN), .ref cr1, .ref cr2, .ref cr3, .ref cr4, .ref cr5])), (cr1, .inl (G.2.1, 4, .inl (fun k => nI (yFa k)))), (cr3, .inl (G.2.1, 4, .inl (fun k => nI ((sU yRu wi ((yRu wi) + 1)) k)))), (cr4, .inl (G.2.1, 4, .inl (fun k => nI ((sU yBu wi ((yBu wi) + co)) k))))] H := hP
  have hD : va_D A [(crq, .inr (2, [.int (nI crN), .ref cr1, .ref cr2, .ref cr3, .ref cr4, .ref cr5])), (cr1, .inl (G.2.1, 4, .inl (fun k => nI (yFa k)))), (cr3, .inl (G.2.1, 4, .inl (fun k => nI ((sU yRu wi ((yRu wi) + 1)) k)))), (cr4, .inl (G.2.1, 4, .inl (fun k => nI ((sU yBu wi ((yBu wi) + co)) k))))] := hD
  refine lv_aload_n hx hb dX2_runOnce_20 rfl (lv_at hl 0 rfl) ?_
  refine va_get (D := sx_D G) (ci := 2) (v := .ref cr1) (C := RX2) (T := TX2) (N := 6) hx hb hts inX2 hown hK hP 0 rfl rfl 1 (by decide) (hts _ q102) (fun _ h9 => h9) rfl dX2_runOnce_21 ?_
  refine lv_iload_n hx hb dX2_runOnce_24 rfl (lv_at hl 1 rfl) ?_
  refine sx_ild (X := wi) hx hb hK hP 1 rfl (by omega) rfl dX2_runOnce_25 ?_
  have b_2 := h_fa wi
  refine lv_if_le (tgt := 49) hx hb dX2_runOnce_26 (by decide) (fun c_3 => ?_) (fun c_3 => ?_)
  · have c_3 : (yFa wi) ≤ 0 := by have h9 : ((yFa wi : Nat) : Int) ≤ (0 : Int) := (sJ_le (a := ((yFa wi : Nat) : Int)) (b := (0 : Int)) (by omega) (by omega) (by omega) (by omega)).mp c_3; omega
    refine lv_iconst (v := 0) hx hb dX2_runOnce_49 (by decide) ?_
    refine lv_istore (lv' := [(4, .int 0), (0, .ref crq), (1, .int (nI wi)), (2, .int (nI co)), (3, .int (nI cp))]) hx hb dX2_runOnce_50 hl (by decide) rfl (fun ls hl => ?_)
    refine lv_iload hx hb dX2_runOnce_52 (lv_at hl 0 rfl) ?_
    refine lv_if_eq (tgt := 67) hx hb dX2_runOnce_54 (by decide) (fun c_4 => ?_) (fun c_4 => absurd (by decide) c_4)
    refine lv_iload_n hx hb dX2_runOnce_67 rfl (lv_at hl 4 rfl) ?_
    exact (sx_iret (v := nI cp) () hx hb hr rfl hlk hP hD hS (congrArg nI (if_neg (by omega)).symm) dX2_runOnce_68 rfl rfl)
  · have c_3 : ¬ ((yFa wi) ≤ 0) := by have h9 : ¬ (((yFa wi : Nat) : Int) ≤ (0 : Int)) := fun h => c_3 ((sJ_le (a := ((yFa wi : Nat) : Int)) (b := (0 : Int)) (by omega) (by omega) (by omega) (by omega)).mpr h); omega
    refine lv_aload_n hx hb dX2_runOnce_29 rfl (lv_at hl 0 rfl) ?_
    refine va_get (D := sx_D G) (ci := 2) (v := .ref cr3) (C := RX2) (T := TX2) (N := 6) hx hb hts inX2 hown hK hP 0 rfl rfl 3 (by decide) (hts _ q107) (fun _ h9 => h9) rfl dX2_runOnce_30 ?_
    refine lv_iload_n hx hb dX2_runOnce_33 rfl (lv_at hl 1 rfl) ?_
    refine sx_ild (X := wi) hx hb hK hP 2 rfl (by omega) rfl dX2_runOnce_34 ?_
    refine sx_topI (congrArg nI (sU_s _ _ _)) ?_
    refine lv_aload_n hx hb dX2_runOnce_35 rfl (lv_at hl 0 rfl) ?_
    refine va_get (D := sx_D G) (ci := 2) (v := .ref cr1) (C := RX2) (T := TX2) (N := 6) hx hb hts inX2 hown hK hP 0 rfl rfl 1 (by decide) (hts _ q102) (fun _ h9 => h9) rfl dX2_runOnce_36 ?_
    refine lv_iload_n hx hb dX2_runOnce_39 rfl (lv_at hl 1 rfl) ?_
    refine sx_ild (X := wi) hx hb hK hP 1 rfl (by omega) rfl dX2_runOnce_40 ?_
    have b_5 := h_fa wi
    refine lv_irem hx hb dX2_runOnce_41 (nI_ne0 (by omega) (by omega)) ?_
    refine sx_topI (pk_rem (a := ((yRu wi) + 1)) (d := (yFa wi)) (by omega) (by omega) (by omega)) ?_
    refine lv_if_ne (tgt := 49) hx hb dX2_runOnce_42 (by decide) (fun c_6 => ?_) (fun c_6 => ?_)
    · have c_6 : ¬ ((((yRu wi) + 1) % (yFa wi)) = 0) := by have h9 : ¬ (((((yRu wi) + 1) % (yFa wi) : Nat) : Int) = (0 : Int)) := fun h => c_6 ((sJ_eq (a := ((((yRu wi) + 1) % (yFa wi) : Nat) : Int)) (b := (0 : Int)) (by have h7 := Nat.mod_lt (yRu wi + 1) (show 0 < yFa wi by omega); omega) (by have h7 := Nat.mod_lt (yRu wi + 1) (show 0 < yFa wi by omega); omega) (by have h7 := Nat.mod_lt (yRu wi + 1) (show 0 < yFa wi by omega); omega) (by have h7 := Nat.mod_lt (yRu wi + 1) (show 0 < yFa wi by omega); omega)).mpr h); omega
      refine lv_iconst (v := 0) hx hb dX2_runOnce_49 (by decide) ?_
      refine lv_istore (lv' := [(4, .int 0), (0, .ref crq), (1, .int (nI wi)), (2, .int (nI co)), (3, .int (nI cp))]) hx hb dX2_runOnce_50 hl (by decide) rfl (fun ls hl => ?_)
      refine lv_iload hx hb dX2_runOnce_52 (lv_at hl 0 rfl) ?_
      refine lv_if_eq (tgt := 67) hx hb dX2_runOnce_54 (by decide) (fun c_7 => ?_) (fun c_7 => absurd (by decide) c_7)
      refine lv_iload_n hx hb dX2_runOnce_67 rfl (lv_at hl 4 rfl) ?_
      exact (sx_iret (v := nI cp) () hx hb hr rfl hlk hP hD hS (congrArg nI (if_neg (by omega)).symm) dX2_runOnce_68 rfl rfl)
    · have c_6 : (((yRu wi) + 1) % (yFa wi)) = 0 := by have h9 : ((((yRu wi) + 1) % (yFa wi) : Nat) : Int) = (0 : Int) := (sJ_eq (a := ((((yRu wi) + 1) % (yFa wi) : Nat) : Int)) (b := (0 : Int)) (by have h7 := Nat.mod_lt (yRu wi + 1) (show 0 < yFa wi by omega); omega) (by have h7 := Nat.mod_lt (yRu wi + 1) (show 0 < yFa wi by omega); omega) (by have h7 := Nat.mod_lt (yRu wi + 1) (show 0 < yFa wi by omega); omega) (by have h7 := Nat.mod_lt (yRu wi + 1) (show 0 < yFa wi by omega); omega)).mp c_6; omega
      refine lv_iconst (v := 1) hx hb dX2_runOnce_45 (by decide) ?_
      refine lv_goto (tgt := 50) hx hb dX2_runOnce_46 (by decide) ?_
      refine lv_istore (lv' := [(4, .int 1), (0, .ref crq), (1, .int (nI wi)), (2, .int (nI co)), (3, .int (nI cp))]) hx hb dX2_runOnce_50 hl (by decide) rfl (fun ls hl => ?_)
      refine lv_iload hx hb dX2_runOnce_52 (lv_at hl 0 rfl) ?_
      refine lv_if_eq (tgt := 67) hx hb dX2_runOnce_54 (by decide) (fun c_8 => absurd c_8 (by decide)) (fun c_8 => ?_)
      refine lv_iload_n hx hb dX2_runOnce_57 rfl (lv_at hl 4 rfl) ?_
      refine lv_iconst (v := 1) hx hb dX2_runOnce_58 (by decide) ?_
      refine lv_iadd hx hb dX2_runOnce_59 ?_
      refine sx_topI (nI_add cp 1) ?_
      refine lv_sipush (v := 997) hx hb dX2_runOnce_60 (by decide) ?_
      refine lv_irem hx hb dX2_runOnce_63 (by decide) ?_
      refine sx_topI (pk_rem (a := (cp + 1)) (d := 997) (by omega) (by omega) (by omega)) ?_
      refine lv_goto (tgt := 68) hx hb dX2_runOnce_64 (by decide) ?_
      exact (sx_iret (v := nI ((cp + 1) % 997)) () hx hb hr rfl hlk hP hD hS (congrArg nI (if_pos ⟨by omega, by omega⟩).symm) dX2_runOnce_68 rfl rfl)
