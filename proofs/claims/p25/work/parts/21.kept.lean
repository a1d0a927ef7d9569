/-! the bounds are kept -/
theorem okS_up {n : Nat} {sg : sT} (h : okS n sg) : okS (n + 1) sg := ⟨(ok_ac (n := n) (sg := sg) h), (ok_wo (n := n) (sg := sg) h), (ok_tm (n := n) (sg := sg) h), (ok_pr (n := n) (sg := sg) h), (fun k => Nat.le_trans (ok_hi (n := n) (sg := sg) h k) (by omega)), (ok_st (n := n) (sg := sg) h), (ok_co (n := n) (sg := sg) h), (ok_sz (n := n) (sg := sg) h), (ok_ct (n := n) (sg := sg) h), (ok_va (n := n) (sg := sg) h), (ok_fs (n := n) (sg := sg) h), (ok_fa (n := n) (sg := sg) h), (ok_tr (n := n) (sg := sg) h), (fun k => Nat.le_trans (ok_ru (n := n) (sg := sg) h k) (by omega)), (fun k => Nat.le_trans (ok_bu (n := n) (sg := sg) h k) (by omega)), (fun k => Nat.le_trans (ok_ch (n := n) (sg := sg) h k) (by omega)), (ok_zc (n := n) (sg := sg) h), (ok_zv (n := n) (sg := sg) h), (ok_zf (n := n) (sg := sg) h), (ok_za (n := n) (sg := sg) h), (ok_zs (n := n) (sg := sg) h), (ok_zo (n := n) (sg := sg) h), (ok_zco (n := n) (sg := sg) h), (ok_zsz (n := n) (sg := sg) h), (ok_cl (n := n) (sg := sg) h), (ok_qu (n := n) (sg := sg) h), (ok_ps (n := n) (sg := sg) h), (ok_fr (n := n) (sg := sg) h), (ok_gp (n := n) (sg := sg) h), (ok_ge (n := n) (sg := sg) h), (ok_sc (n := n) (sg := sg) h)⟩
theorem okS_le {n m : Nat} {sg : sT} (h : okS n sg) (hm : n ≤ m) : okS m sg := ⟨(ok_ac (n := n) (sg := sg) h), (ok_wo (n := n) (sg := sg) h), (ok_tm (n := n) (sg := sg) h), (ok_pr (n := n) (sg := sg) h), (fun k => Nat.le_trans (ok_hi (n := n) (sg := sg) h k) (by omega)), (ok_st (n := n) (sg := sg) h), (ok_co (n := n) (sg := sg) h), (ok_sz (n := n) (sg := sg) h), (ok_ct (n := n) (sg := sg) h), (ok_va (n := n) (sg := sg) h), (ok_fs (n := n) (sg := sg) h), (ok_fa (n := n) (sg := sg) h), (ok_tr (n := n) (sg := sg) h), (fun k => Nat.le_trans (ok_ru (n := n) (sg := sg) h k) (by omega)), (fun k => Nat.le_trans (ok_bu (n := n) (sg := sg) h k) (by omega)), (fun k => Nat.le_trans (ok_ch (n := n) (sg := sg) h k) (by omega)), (ok_zc (n := n) (sg := sg) h), (ok_zv (n := n) (sg := sg) h), (ok_zf (n := n) (sg := sg) h), (ok_za (n := n) (sg := sg) h), (ok_zs (n := n) (sg := sg) h), (ok_zo (n := n) (sg := sg) h), (ok_zco (n := n) (sg := sg) h), (ok_zsz (n := n) (sg := sg) h), (ok_cl (n := n) (sg := sg) h), (ok_qu (n := n) (sg := sg) h), (ok_ps (n := n) (sg := sg) h), (ok_fr (n := n) (sg := sg) h), (ok_gp (n := n) (sg := sg) h), (ok_ge (n := n) (sg := sg) h), (ok_sc (n := n) (sg := sg) h)⟩
theorem runS_ok {n : Nat} {sg : sT} {w a : Nat} (h : okS n sg) : okS (n + 1) (runS sg w a) := ⟨(ok_ac (n := n) (sg := sg) h), (ok_wo (n := n) (sg := sg) h), (ok_tm (n := n) (sg := sg) h), (ok_pr (n := n) (sg := sg) h), (fun k => Nat.le_trans (ok_hi (n := n) (sg := sg) h k) (by omega)), (ok_st (n := n) (sg := sg) h), (ok_co (n := n) (sg := sg) h), (ok_sz (n := n) (sg := sg) h), (ok_ct (n := n) (sg := sg) h), (ok_va (n := n) (sg := sg) h), (ok_fs (n := n) (sg := sg) h), (ok_fa (n := n) (sg := sg) h), (ok_tr (n := n) (sg := sg) h), (sU_all (P := fun z => z ≤ n + 1) (fun k => Nat.le_trans (ok_ru (n := n) (sg := sg) h k) (by omega)) (Nat.succ_le_succ (ok_ru (n := n) (sg := sg) h w))), (sU_all (P := fun z => z ≤ 50 * (n + 1)) (fun k => Nat.le_trans (ok_bu (n := n) (sg := sg) h k) (by omega)) (by have h1 := ok_bu h w; have h2 := ok_zco h a; omega)), (fun k => Nat.le_trans (ok_ch (n := n) (sg := sg) h k) (by omega)), (ok_zc (n := n) (sg := sg) h), (ok_zv (n := n) (sg := sg) h), (ok_zf (n := n) (sg := sg) h), (ok_za (n := n) (sg := sg) h), (ok_zs (n := n) (sg := sg) h), (ok_zo (n := n) (sg := sg) h), (ok_zco (n := n) (sg := sg) h), (ok_zsz (n := n) (sg := sg) h), (ok_cl (n := n) (sg := sg) h), (ok_qu (n := n) (sg := sg) h), (ok_ps (n := n) (sg := sg) h), (ok_fr (n := n) (sg := sg) h), (ok_gp (n := n) (sg := sg) h), (ok_ge (n := n) (sg := sg) h), (ok_sc (n := n) (sg := sg) h)⟩
def hitS (sg : sT) (t e a : Nat) : sT := pR 48 (sU (sg.1 48) t (sg.1 48 t + sg.1 36 a)) (pR 14 (sU (sg.1 14) e (sg.1 14 e + 1)) sg)
theorem hitS_ok {n : Nat} {sg : sT} {t e a : Nat} (h : okS n sg) : okS (n + 1) (hitS sg t e a) := ⟨(ok_ac (n := n) (sg := sg) h), (ok_wo (n := n) (sg := sg) h), (ok_tm (n := n) (sg := sg) h), (ok_pr (n := n) (sg := sg) h), (sU_all (P := fun z => z ≤ n + 1) (fun k => Nat.le_trans (ok_hi (n := n) (sg := sg) h k) (by omega)) (Nat.succ_le_succ (ok_hi (n := n) (sg := sg) h e))), (ok_st (n := n) (sg := sg) h), (ok_co (n := n) (sg := sg) h), (ok_sz (n := n) (sg := sg) h), (ok_ct (n := n) (sg := sg) h), (ok_va (n := n) (sg := sg) h), (ok_fs (n := n) (sg := sg) h), (ok_fa (n := n) (sg := sg) h), (ok_tr (n := n) (sg := sg) h), (fun k => Nat.le_trans (ok_ru (n := n) (sg := sg) h k) (by omega)), (fun k => Nat.le_trans (ok_bu (n := n) (sg := sg) h k) (by omega)), (fun k => Nat.le_trans (ok_ch (n := n) (sg := sg) h k) (by omega)), (ok_zc (n := n) (sg := sg) h), (ok_zv (n := n) (sg := sg) h), (ok_zf (n := n) (sg := sg) h), (ok_za (n := n) (sg := sg) h), (ok_zs (n := n) (sg := sg) h), (ok_zo (n := n) (sg := sg) h), (ok_zco (n := n) (sg := sg) h), (ok_zsz (n := n) (sg := sg) h), (ok_cl (n := n) (sg := sg) h), (ok_qu (n := n) (sg := sg) h), (ok_ps (n := n) (sg := sg) h), (ok_fr (n := n) (sg := sg) h), (ok_gp (n := n) (sg := sg) h), (ok_ge (n := n) (sg := sg) h), (ok_sc (n := n) (sg := sg) h)⟩
theorem sU_allZ {P : Int → Prop} {f : Nat → Int} {i : Nat} {v : Int} (h : ∀ k, P (f k)) (hv : P v) : ∀ k, P (sU f i v k) := fun k => by
  by_cases e : k = i
  · subst e; rw [sU_s]; exact hv
  · rw [sU_n _ _ e]; exact h k
def gotS (sg : sT) (a p e : Nat) : sT := pZ 3 (sU (sg.2 3) a ((e : Nat) : Int)) (pZ 2 (sU (sg.2 2) a ((p : Nat) : Int)) sg)
theorem gotS_ok {n : Nat} {sg : sT} {a p e : Nat} (h : okS n sg) (hp : p ≤ 996) (he : e < 60) : okS n (gotS sg a p e) := ⟨(ok_ac (n := n) (sg := sg) h), (ok_wo (n := n) (sg := sg) h), (ok_tm (n := n) (sg := sg) h), (ok_pr (n := n) (sg := sg) h), (ok_hi (n := n) (sg := sg) h), (ok_st (n := n) (sg := sg) h), (ok_co (n := n) (sg := sg) h), (ok_sz (n := n) (sg := sg) h), (ok_ct (n := n) (sg := sg) h), (ok_va (n := n) (sg := sg) h), (ok_fs (n := n) (sg := sg) h), (ok_fa (n := n) (sg := sg) h), (ok_tr (n := n) (sg := sg) h), (ok_ru (n := n) (sg := sg) h), (ok_bu (n := n) (sg := sg) h), (ok_ch (n := n) (sg := sg) h), (ok_zc (n := n) (sg := sg) h), (ok_zv (n := n) (sg := sg) h), (ok_zf (n := n) (sg := sg) h), (ok_za (n := n) (sg := sg) h), (ok_zs (n := n) (sg := sg) h), (ok_zo (n := n) (sg := sg) h), (ok_zco (n := n) (sg := sg) h), (ok_zsz (n := n) (sg := sg) h), (ok_cl (n := n) (sg := sg) h), (ok_qu (n := n) (sg := sg) h), (ok_ps (n := n) (sg := sg) h), (ok_fr (n := n) (sg := sg) h), (sU_allZ (P := fun z => -1 ≤ z ∧ z ≤ 996) (ok_gp (n := n) (sg := sg) h) (by omega)), (sU_allZ (P := fun z => -1 ≤ z ∧ z ≤ 59) (ok_ge (n := n) (sg := sg) h) (by omega)), (ok_sc (n := n) (sg := sg) h)⟩
theorem chtN_b {tr : Nat → Nat} {w n : Nat} {z : Int} (h : ∀ k, tr k ≤ 100) (k : Nat) : chtN tr w z n k ≤ 100 := by
  unfold chtN
  split
  · exact sU_all (P := fun z => z ≤ 100) h (trN_b _) k
  · exact h k
theorem poisN_b {S e n : Nat} {st : Nat → Nat} (h : ∀ k, st k ≤ 2) (k : Nat) : poisN S e st n k ≤ 2 := by
  unfold poisN
  split
  · omega
  · exact h k
theorem cmpW_b {n : Nat} {sg : sT} {e : Nat} (h : okS n sg) : cmpW sg e ≤ 3 := by
  have h1 := choN_le (sg.1 24) (sg.1 26) ((sg.1 11 e : Nat) : Int) (sg.1 0 3)
  have h2 := (ok_sc (n := n) (sg := sg) h).2.2.1
  unfold cmpW choS
  omega
theorem cmpS_ok {n : Nat} {sg : sT} {e a : Nat} (h : okS n sg) : okS (n + 1) (cmpS sg e a) := by
  obtain ⟨k1, k2, k3, k4, k5, k6, k7, k8⟩ := ok_sc h
  have hw := cmpW_b (e := e) h
  have hp := runP_b sg (cmpW sg e) a
  have hc := choN_le (sg.1 24) (sg.1 26) ((sg.1 11 e : Nat) : Int) (sg.1 0 3)
  have hc2 : choS sg ((sg.1 11 e : Nat) : Int) ≤ sg.1 0 3 := hc
  unfold cmpS
  split
  · exact ⟨(ok_ac (n := n) (sg := sg) h), (ok_wo (n := n) (sg := sg) h), (ok_tm (n := n) (sg := sg) h), (ok_pr (n := n) (sg := sg) h), (fun k => Nat.le_trans (ok_hi (n := n) (sg := sg) h k) (by omega)), (ok_st (n := n) (sg := sg) h), (ok_co (n := n) (sg := sg) h), (ok_sz (n := n) (sg := sg) h), (ok_ct (n := n) (sg := sg) h), (ok_va (n := n) (sg := sg) h), (ok_fs (n := n) (sg := sg) h), (ok_fa (n := n) (sg := sg) h), (ok_tr (n := n) (sg := sg) h), (fun k => Nat.le_trans (ok_ru (n := n) (sg := sg) h k) (by omega)), (fun k => Nat.le_trans (ok_bu (n := n) (sg := sg) h k) (by omega)), (fun k => Nat.le_trans (ok_ch (n := n) (sg := sg) h k) (by omega)), (ok_zc (n := n) (sg := sg) h), (ok_zv (n := n) (sg := sg) h), (ok_zf (n := n) (sg := sg) h), (ok_za (n := n) (sg := sg) h), (ok_zs (n := n) (sg := sg) h), (ok_zo (n := n) (sg := sg) h), (ok_zco (n := n) (sg := sg) h), (ok_zsz (n := n) (sg := sg) h), (ok_cl (n := n) (sg := sg) h), (ok_qu (n := n) (sg := sg) h), (ok_ps (n := n) (sg := sg) h), (ok_fr (n := n) (sg := sg) h), (ok_gp (n := n) (sg := sg) h), (ok_ge (n := n) (sg := sg) h), ⟨k1, k2, k3, k4, k5, k6, (show (-1 : Int) ≤ ((choS sg ((sg.1 11 e : Nat) : Int) : Nat) : Int) - 1 by omega), (show ((choS sg ((sg.1 11 e : Nat) : Int) : Nat) : Int) - 1 ≤ 3 by omega)⟩⟩
  · split
    · exact ⟨(ok_ac (n := n) (sg := sg) h), (ok_wo (n := n) (sg := sg) h), (ok_tm (n := n) (sg := sg) h), (ok_pr (n := n) (sg := sg) h), (fun k => Nat.le_trans (ok_hi (n := n) (sg := sg) h k) (by omega)), (ok_st (n := n) (sg := sg) h), (ok_co (n := n) (sg := sg) h), (ok_sz (n := n) (sg := sg) h), (ok_ct (n := n) (sg := sg) h), (ok_va (n := n) (sg := sg) h), (ok_fs (n := n) (sg := sg) h), (ok_fa (n := n) (sg := sg) h), (fun k => chtN_b (ok_tr (n := n) (sg := sg) h) k), (sU_all (P := fun z => z ≤ n + 1) (fun k => Nat.le_trans (ok_ru (n := n) (sg := sg) h k) (by omega)) (Nat.succ_le_succ (ok_ru (n := n) (sg := sg) h (cmpW sg e)))), (sU_all (P := fun z => z ≤ 50 * (n + 1)) (fun k => Nat.le_trans (ok_bu (n := n) (sg := sg) h k) (by omega)) (by have h1 := ok_bu h (cmpW sg e); have h2 := ok_zco h a; omega)), (sU_all (P := fun z => z ≤ n + 1) (fun k => Nat.le_trans (ok_ch (n := n) (sg := sg) h k) (by omega)) (Nat.succ_le_succ (ok_ch (n := n) (sg := sg) h (cmpW sg e)))), (ok_zc (n := n) (sg := sg) h), (ok_zv (n := n) (sg := sg) h), (ok_zf (n := n) (sg := sg) h), (ok_za (n := n) (sg := sg) h), (ok_zs (n := n) (sg := sg) h), (ok_zo (n := n) (sg := sg) h), (ok_zco (n := n) (sg := sg) h), (ok_zsz (n := n) (sg := sg) h), (ok_cl (n := n) (sg := sg) h), (ok_qu (n := n) (sg := sg) h), (ok_ps (n := n) (sg := sg) h), (ok_fr (n := n) (sg := sg) h), (ok_gp (n := n) (sg := sg) h), (ok_ge (n := n) (sg := sg) h), ⟨k1, k2, k3, k4, k5, hp, (show (-1 : Int) ≤ ((cmpW sg e : Nat) : Int) by omega), (show ((cmpW sg e : Nat) : Int) ≤ 3 by omega)⟩⟩
    · split
      · exact ⟨(ok_ac (n := n) (sg := sg) h), (ok_wo (n := n) (sg := sg) h), (ok_tm (n := n) (sg := sg) h), (ok_pr (n := n) (sg := sg) h), (fun k => Nat.le_trans (ok_hi (n := n) (sg := sg) h k) (by omega)), (fun k => poisN_b (ok_st (n := n) (sg := sg) h) k), (ok_co (n := n) (sg := sg) h), (ok_sz (n := n) (sg := sg) h), (ok_ct (n := n) (sg := sg) h), (ok_va (n := n) (sg := sg) h), (ok_fs (n := n) (sg := sg) h), (ok_fa (n := n) (sg := sg) h), (fun k => chtN_b (ok_tr (n := n) (sg := sg) h) k), (sU_all (P := fun z => z ≤ n + 1) (fun k => Nat.le_trans (ok_ru (n := n) (sg := sg) h k) (by omega)) (Nat.succ_le_succ (ok_ru (n := n) (sg := sg) h (cmpW sg e)))), (sU_all (P := fun z => z ≤ 50 * (n + 1)) (fun k => Nat.le_trans (ok_bu (n := n) (sg := sg) h k) (by omega)) (by have h1 := ok_bu h (cmpW sg e); have h2 := ok_zco h a; omega)), (sU_all (P := fun z => z ≤ n + 1) (fun k => Nat.le_trans (ok_ch (n := n) (sg := sg) h k) (by omega)) (Nat.succ_le_succ (ok_ch (n := n) (sg := sg) h (cmpW sg e)))), (ok_zc (n := n) (sg := sg) h), (ok_zv (n := n) (sg := sg) h), (ok_zf (n := n) (sg := sg) h), (ok_za (n := n) (sg := sg) h), (ok_zs (n := n) (sg := sg) h), (ok_zo (n := n) (sg := sg) h), (ok_zco (n := n) (sg := sg) h), (ok_zsz (n := n) (sg := sg) h), (ok_cl (n := n) (sg := sg) h), (ok_qu (n := n) (sg := sg) h), (ok_ps (n := n) (sg := sg) h), (ok_fr (n := n) (sg := sg) h), (ok_gp (n := n) (sg := sg) h), (ok_ge (n := n) (sg := sg) h), ⟨k1, k2, k3, k4, k5, hp, (show (-1 : Int) ≤ ((cmpW sg e : Nat) : Int) by omega), (show ((cmpW sg e : Nat) : Int) ≤ 3 by omega)⟩⟩
      · exact ⟨(ok_ac (n := n) (sg := sg) h), (ok_wo (n := n) (sg := sg) h), (ok_tm (n := n) (sg := sg) h), (ok_pr (n := n) (sg := sg) h), (fun k => Nat.le_trans (ok_hi (n := n) (sg := sg) h k) (by omega)), (fun k => poisN_b (fun k => dropN_b (ok_st (n := n) (sg := sg) h) k) k), (ok_co (n := n) (sg := sg) h), (ok_sz (n := n) (sg := sg) h), (ok_ct (n := n) (sg := sg) h), (ok_va (n := n) (sg := sg) h), (ok_fs (n := n) (sg := sg) h), (ok_fa (n := n) (sg := sg) h), (ok_tr (n := n) (sg := sg) h), (sU_all (P := fun z => z ≤ n + 1) (fun k => Nat.le_trans (ok_ru (n := n) (sg := sg) h k) (by omega)) (Nat.succ_le_succ (ok_ru (n := n) (sg := sg) h (cmpW sg e)))), (sU_all (P := fun z => z ≤ 50 * (n + 1)) (fun k => Nat.le_trans (ok_bu (n := n) (sg := sg) h k) (by omega)) (by have h1 := ok_bu h (cmpW sg e); have h2 := ok_zco h a; omega)), (sU_all (P := fun z => z ≤ n + 1) (fun k => Nat.le_trans (ok_ch (n := n) (sg := sg) h k) (by omega)) (Nat.succ_le_succ (ok_ch (n := n) (sg := sg) h (cmpW sg e)))), (ok_zc (n := n) (sg := sg) h), (ok_zv (n := n) (sg := sg) h), (ok_zf (n := n) (sg := sg) h), (ok_za (n := n) (sg := sg) h), (ok_zs (n := n) (sg := sg) h), (sU_all (P := fun z => z < 64) (ok_zo (n := n) (sg := sg) h) (sDf_b (k := 6) (ok_zo (n := n) (sg := sg) h a))), (ok_zco (n := n) (sg := sg) h), (ok_zsz (n := n) (sg := sg) h), (ok_cl (n := n) (sg := sg) h), (ok_qu (n := n) (sg := sg) h), (ok_ps (n := n) (sg := sg) h), (ok_fr (n := n) (sg := sg) h), (ok_gp (n := n) (sg := sg) h), (ok_ge (n := n) (sg := sg) h), ⟨k1, k2, k3, k4, k5, hp, (show (-1 : Int) ≤ ((cmpW sg e : Nat) : Int) by omega), (show ((cmpW sg e : Nat) : Int) ≤ 3 by omega)⟩⟩
theorem cpyN_b {f g : Nat → Nat} {d n B : Nat} (hf : ∀ k, f k ≤ B) (hg : ∀ k, g k ≤ B) (k : Nat) : cpyN f g d n k ≤ B := by
  unfold cpyN
  split
  · exact hf _
  · exact hg _
theorem psN_b {S d i : Nat} {g f : Nat → Int} {B : Int} (hB : -1 ≤ B) (hg : ∀ k, -1 ≤ g k ∧ g k ≤ B) (hf : ∀ k, -1 ≤ f k ∧ f k ≤ B) (k : Nat) : -1 ≤ psN S g f d i k ∧ psN S g f d i k ≤ B := by
  unfold psN
  split
  · split
    · exact hg _
    · exact ⟨Int.le_refl _, hB⟩
  · exact hf _
theorem fsvN_b {S : Nat} {g : Nat → Int} (h : ∀ k, S.testBit k = true → 0 ≤ g k ∧ g k < 60) : ∀ n, fsvN S g n < 2 ^ 60
  | 0 => (show 0 < 2 ^ 60 by decide)
  | n + 1 => by
    have ih := fsvN_b h n
    rw [fsvN_s]
    refine Nat.or_lt_two_pow ih ?_
    split
    · rename_i q
      have := h n q
      exact Nat.pow_lt_pow_right (by decide) (by omega)
    · decide
theorem newS_ok {n : Nat} {sg : sT} {t a w p v : Nat} {str : Nat → Nat} (h : okS n sg) (ht : t < 4) (ha : a < 14) (hw : w < 4) (hp : p ≤ 996) (hsrc : ∀ k, (sg.1 33 a).testBit k = true → 0 ≤ sg.2 3 k ∧ sg.2 3 k < 60) (hc : sg.1 0 0 < 60) (hs : ∀ k, str k ≤ 2) (hv : v ≤ 2) : okS n (newS sg t a w p str v) := by
  obtain ⟨k1, k2, k3, k4, k5, k6, k7, k8⟩ := ok_sc h
  exact ⟨(sU_all (P := fun z => z < 14) (ok_ac (n := n) (sg := sg) h) ha), (sU_all (P := fun z => z < 4) (ok_wo (n := n) (sg := sg) h) hw), (sU_all (P := fun z => z < 4) (ok_tm (n := n) (sg := sg) h) ht), (sU_all (P := fun z => z ≤ 996) (ok_pr (n := n) (sg := sg) h) hp), (sU_all (P := fun z => z ≤ n) (ok_hi (n := n) (sg := sg) h) (Nat.zero_le _)), (sU_all (P := fun z => z ≤ 2) hs hv), (sU_all (P := fun z => z ≤ 50) (ok_co (n := n) (sg := sg) h) (ok_zco (n := n) (sg := sg) h a)), (sU_all (P := fun z => z ≤ 20) (ok_sz (n := n) (sg := sg) h) (ok_zsz (n := n) (sg := sg) h a)), (cpyN_b (ok_zc (n := n) (sg := sg) h) (ok_ct (n := n) (sg := sg) h)), (cpyN_b (ok_zv (n := n) (sg := sg) h) (ok_va (n := n) (sg := sg) h)), (sU_all (P := fun z => z < 2 ^ 60) (ok_fs (n := n) (sg := sg) h) (fsvN_b hsrc 14)), (ok_fa (n := n) (sg := sg) h), (ok_tr (n := n) (sg := sg) h), (ok_ru (n := n) (sg := sg) h), (ok_bu (n := n) (sg := sg) h), (ok_ch (n := n) (sg := sg) h), (ok_zc (n := n) (sg := sg) h), (ok_zv (n := n) (sg := sg) h), (ok_zf (n := n) (sg := sg) h), (ok_za (n := n) (sg := sg) h), (ok_zs (n := n) (sg := sg) h), (ok_zo (n := n) (sg := sg) h), (ok_zco (n := n) (sg := sg) h), (ok_zsz (n := n) (sg := sg) h), (ok_cl (n := n) (sg := sg) h), (ok_qu (n := n) (sg := sg) h), (psN_b (by decide) (ok_gp (n := n) (sg := sg) h) (ok_ps (n := n) (sg := sg) h)), (psN_b (by decide) (ok_ge (n := n) (sg := sg) h) (ok_fr (n := n) (sg := sg) h)), (sU_allZ (P := fun z => -1 ≤ z ∧ z ≤ 996) (ok_gp (n := n) (sg := sg) h) (by omega)), (sU_allZ (P := fun z => -1 ≤ z ∧ z ≤ 59) (ok_ge (n := n) (sg := sg) h) (by omega)), ⟨(show sg.1 0 0 + 1 ≤ 60 by omega), k2, k3, k4, k5, k6, k7, k8⟩⟩
theorem entS_ok {n : Nat} {sg : sT} {t a w p : Nat} (h : okS n sg) (ht : t < 4) (ha : a < 14) (hw : w < 4) (hp : p ≤ 996) (hsrc : ∀ k, (sg.1 33 a).testBit k = true → 0 ≤ sg.2 3 k ∧ sg.2 3 k < 60) : okS n (entS sg t a w p) := by
  unfold entS
  split
  · rename_i q
    split
    · exact newS_ok h ht ha hw hp hsrc (by have := q.1; omega) (roomS_b (ok_st (n := n) (sg := sg) h) _) (by decide)
    · exact newS_ok h ht ha hw hp hsrc (by have := q.1; omega) (ok_st (n := n) (sg := sg) h) (by decide)
  · exact h
theorem cmpS_33 (sg : sT) (e a : Nat) : (cmpS sg e a).1 33 = sg.1 33 := by
  unfold cmpS
  split
  · rfl
  · split
    · rfl
    · split <;> rfl
theorem cmpS_z (sg : sT) (e a i : Nat) (hi : i < 4) : (cmpS sg e a).2 i = sg.2 i := by
  have h4 : i ≠ 4 := by omega
  unfold cmpS
  split
  · exact if_neg h4
  · split
    · exact if_neg h4
    · split <;> exact if_neg h4
theorem cmpS_ck {sg : sT} {e a : Nat} (h : cmpO sg e a = 2) : (cmpS sg e a).2 4 0 = ((cmpW sg e : Nat) : Int) := by
  unfold cmpO at h
  unfold cmpS
  split
  · rename_i q; rw [if_pos q] at h; exact absurd h (by decide)
  · split
    · rfl
    · split <;> rfl
