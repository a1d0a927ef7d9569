/-! pure words: an attempt; what an action wants is closed -/
theorem obtS_ok {n : Nat} {sg : sT} {t a : Nat} (h : okS n sg) (ht : t < 4) (ha : a < 14) (hsrc : ∀ k, (sg.1 33 a).testBit k = true → 0 ≤ sg.2 3 k ∧ sg.2 3 k < 60) : okS (n + 2) (obtS sg t a) := by
  have hh : okS (n + 1) (hitS sg t (obtH sg a - 1) a) := hitS_ok h
  have hc := cmpS_ok (e := obtH sg a - 1) (a := a) hh
  have h1 := fstN_le (hitX sg a) (sg.1 0 0)
  have h2 := (ok_sc h).1
  have hH : obtH sg a - 1 < 60 := by
    have h3 : obtH sg a ≤ sg.1 0 0 := h1
    omega
  have hW : obtW sg - 1 < 4 := by
    have h3 : obtW sg ≤ sg.1 0 3 := choN_le (sg.1 24) (sg.1 26) (-1) (sg.1 0 3)
    have h4 := (ok_sc h).2.2.1
    omega
  unfold obtS
  split
  · split
    · exact okS_le h (by omega)
    · exact okS_le (entS_ok (runS_ok h) ht ha hW (runP_b _ _ _) hsrc) (by omega)
  · split
    · refine entS_ok hc ht ha ?_ (ok_sc hc).2.2.2.2.2.1 ?_
      · have := cmpW_b (e := obtH sg a - 1) hh; omega
      · intro k hk
        rw [cmpS_33] at hk
        rw [cmpS_z _ _ _ 3 (by decide)]
        exact hsrc k hk
    · have ha2 : okS (n + 2) (aftS (hitS sg t (obtH sg a - 1) a) (obtH sg a - 1) a) := by
        unfold aftS
        split
        · exact hc
        · exact okS_le hh (by omega)
      exact gotS_ok ha2 (ok_pr ha2 _) hH
theorem entS_33 (sg : sT) (t a w p : Nat) : (entS sg t a w p).1 33 = sg.1 33 := by
  unfold entS
  split
  · split <;> rfl
  · rfl
theorem aftS_33 (sg : sT) (e a : Nat) : (aftS sg e a).1 33 = sg.1 33 := by
  unfold aftS
  split
  · exact cmpS_33 _ _ _
  · rfl
theorem obtS_33 (sg : sT) (t a : Nat) : (obtS sg t a).1 33 = sg.1 33 := by
  unfold obtS
  split
  · split
    · rfl
    · exact entS_33 _ _ _ _ _
  · split
    · exact (entS_33 _ _ _ _ _).trans (cmpS_33 _ _ _)
    · exact (aftS_33 _ _ _)
theorem entS_z {sg : sT} {t a w p i k : Nat} (hi : i = 2 ∨ i = 3) (hk : k ≠ a) : (entS sg t a w p).2 i k = sg.2 i k := by
  unfold entS
  split
  · split
    · rcases hi with rfl | rfl
      · exact sU_n _ _ hk
      · exact sU_n _ _ hk
    · rcases hi with rfl | rfl
      · exact sU_n _ _ hk
      · exact sU_n _ _ hk
  · rfl
theorem aftS_z (sg : sT) (e a i : Nat) (hi : i < 4) : (aftS sg e a).2 i = sg.2 i := by
  unfold aftS
  split
  · exact cmpS_z _ _ _ _ hi
  · rfl
theorem obtS_z {sg : sT} {t a i k : Nat} (hi : i = 2 ∨ i = 3) (hk : k ≠ a) : (obtS sg t a).2 i k = sg.2 i k := by
  have hi4 : i < 4 := by omega
  unfold obtS
  split
  · split
    · rfl
    · exact (entS_z hi hk).trans rfl
  · split
    · exact (entS_z hi hk).trans (congrFun (cmpS_z _ _ _ _ hi4) k)
    · have e1 : ∀ (s : sT) (p e : Nat), (gotS s a p e).2 i k = s.2 i k := by
        intro s p e
        rcases hi with rfl | rfl
        · exact sU_n _ _ hk
        · exact sU_n _ _ hk
      exact (e1 _ _ _).trans (congrFun (aftS_z _ _ _ _ hi4) k)
theorem entS_got {sg : sT} {t a w p : Nat} (h : entP sg t) (hp : p ≤ 996) : (0 ≤ (entS sg t a w p).2 2 a ∧ (entS sg t a w p).2 2 a ≤ 996) ∧ 0 ≤ (entS sg t a w p).2 3 a ∧ (entS sg t a w p).2 3 a < 60 := by
  have hn := h.1
  unfold entS
  rw [if_pos h]
  have e2 : ∀ (str : Nat → Nat) (v : Nat), (newS sg t a w p str v).2 2 a = ((p : Nat) : Int) := fun str v => sU_s _ _ _
  have e3 : ∀ (str : Nat → Nat) (v : Nat), (newS sg t a w p str v).2 3 a = ((sg.1 0 0 : Nat) : Int) := fun str v => sU_s _ _ _
  split
  · rw [e2, e3]; omega
  · rw [e2, e3]; omega
theorem obtS_got {n : Nat} {sg : sT} {t a : Nat} (h : okS n sg) (hb : obtB sg t a = true) : (0 ≤ (obtS sg t a).2 2 a ∧ (obtS sg t a).2 2 a ≤ 996) ∧ 0 ≤ (obtS sg t a).2 3 a ∧ (obtS sg t a).2 3 a < 60 := by
  have hh : okS (n + 1) (hitS sg t (obtH sg a - 1) a) := hitS_ok h
  have hc := cmpS_ok (e := obtH sg a - 1) (a := a) hh
  have h1 : obtH sg a ≤ sg.1 0 0 := fstN_le (hitX sg a) (sg.1 0 0)
  have h2 := (ok_sc h).1
  unfold obtB at hb
  unfold obtS
  by_cases q : obtH sg a = 0
  · rw [if_pos q] at hb ⊢
    by_cases r : obtW sg = 0
    · rw [if_pos r] at hb; exact absurd hb (by decide)
    · rw [if_neg r] at hb ⊢
      exact entS_got (of_decide_eq_true hb) (runP_b _ _ _)
  · rw [if_neg q] at hb ⊢
    by_cases r : chkP (hitS sg t (obtH sg a - 1) a) (obtH sg a - 1) a
    · rw [if_pos r] at hb ⊢
      exact entS_got (of_decide_eq_true hb) (ok_sc hc).2.2.2.2.2.1
    · rw [if_neg r]
      have ha2 : okS (n + 2) (aftS (hitS sg t (obtH sg a - 1) a) (obtH sg a - 1) a) := by
        unfold aftS
        split
        · exact hc
        · exact okS_le hh (by omega)
      have e2 : ∀ (s : sT) (p e : Nat), (gotS s a p e).2 2 a = ((p : Nat) : Int) := fun s p e => sU_s _ _ _
      have e3 : ∀ (s : sT) (p e : Nat), (gotS s a p e).2 3 a = ((e : Nat) : Int) := fun s p e => sU_s _ _ _
      have hp := ok_pr ha2 (obtH sg a - 1)
      rw [e2, e3]
      omega
def attI (sg : sT) (t nd : Nat) : Nat → sT × Bool
  | 0 => (sg, true)
  | i + 1 => if (attI sg t nd i).2 = true ∧ nd.testBit i = true then (obtS (attI sg t nd i).1 t i, obtB (attI sg t nd i).1 t i) else attI sg t nd i
theorem attI_s (sg : sT) (t nd i : Nat) : attI sg t nd (i + 1) = if (attI sg t nd i).2 = true ∧ nd.testBit i = true then (obtS (attI sg t nd i).1 t i, obtB (attI sg t nd i).1 t i) else attI sg t nd i := rfl
theorem attI_stop {sg : sT} {t nd i : Nat} (h : (attI sg t nd i).2 = false) : ∀ k, i ≤ k → attI sg t nd k = attI sg t nd i
  | 0, hk => by
    have e : i = 0 := by omega
    subst e; rfl
  | k + 1, hk => by
    by_cases q : i = k + 1
    · rw [q]
    · have ih := attI_stop h k (by omega)
      rw [attI_s, if_neg, ih]
      intro g
      rw [ih, h] at g
      exact absurd g.1 (by decide)
def attD (sg : sT) (a : Nat) : Nat := needN (sg.1 33) a (a + 1)
def attS (sg : sT) (t a : Nat) : sT := (attI sg t (attD sg a) (a + 1)).1
def attB (sg : sT) (t a : Nat) : Bool := (attI sg t (attD sg a) (a + 1)).2
theorem needN_mono {ac : Nat → Nat} {a b n : Nat} (h : (needN ac a n).testBit b = true) : (needN ac a (n + 1)).testBit b = true := by
  rw [needN_s]
  split
  · rw [Nat.testBit_or, h]; rfl
  · exact h
theorem needN_mono2 {ac : Nat → Nat} {a b n : Nat} (h : (needN ac a n).testBit b = true) : ∀ k, (needN ac a (n + k)).testBit b = true
  | 0 => h
  | k + 1 => needN_mono (needN_mono2 h k)
theorem needN_late {ac : Nat → Nat} {a b n : Nat} (hr : ∀ c k, c ≤ a → (ac c).testBit k = true → k < c) (hb : a - n ≤ b) (h : (needN ac a (n + 1)).testBit b = true) : (needN ac a n).testBit b = true := by
  rw [needN_s] at h
  by_cases q : (needN ac a n).testBit (a - n) = true
  · rw [if_pos q, Nat.testBit_or, Bool.or_eq_true] at h
    rcases h with h | h
    · exact h
    · have := hr (a - n) b (by omega) h
      omega
  · rw [if_neg q] at h; exact h
theorem needN_late2 {ac : Nat → Nat} {a b n : Nat} (hr : ∀ c k, c ≤ a → (ac c).testBit k = true → k < c) (hb : a - n ≤ b) : ∀ k, (needN ac a (n + k)).testBit b = true → (needN ac a n).testBit b = true
  | 0, h => h
  | k + 1, h => needN_late2 hr hb k (needN_late hr (by omega) h)
theorem needN_closed {ac : Nat → Nat} {a b k : Nat} (hr : ∀ c k, c ≤ a → (ac c).testBit k = true → k < c) (hb : b ≤ a) (h : (needN ac a (a + 1)).testBit b = true) (hk : (ac b).testBit k = true) : (needN ac a (a + 1)).testBit k = true := by
  have e1 : a + 1 = (a - b) + (b + 1) := by omega
  have h1 : (needN ac a (a - b)).testBit b = true := by
    rw [e1] at h
    exact needN_late2 hr (by omega) _ h
  have h2 : (needN ac a (a - b + 1)).testBit k = true := by
    have e2 : a - (a - b) = b := by omega
    rw [needN_s, e2, if_pos h1, Nat.testBit_or, hk, Bool.or_true]
  have h3 := needN_mono2 h2 b
  have e3 : a - b + 1 + b = a + 1 := by omega
  rw [e3] at h3
  exact h3
/-- what holds behind i rounds that went well -/
def attJ (n : Nat) (sg : sT) (t a i : Nat) : Prop :=
  (attI sg t (attD sg a) i).2 = true ∧ okS (n + 2 * i) (attI sg t (attD sg a) i).1 ∧ (attI sg t (attD sg a) i).1.1 33 = sg.1 33 ∧
  ∀ b, b < i → (attD sg a).testBit b = true → (0 ≤ (attI sg t (attD sg a) i).1.2 2 b ∧ (attI sg t (attD sg a) i).1.2 2 b ≤ 996) ∧ 0 ≤ (attI sg t (attD sg a) i).1.2 3 b ∧ (attI sg t (attD sg a) i).1.2 3 b < 60
theorem attJ_0 {n : Nat} {sg : sT} {t a : Nat} (h : okS n sg) : attJ n sg t a 0 := ⟨rfl, h, rfl, fun b hb => absurd hb (Nat.not_lt_zero _)⟩
theorem attJ_src {n : Nat} {sg : sT} {t a i : Nat} (hr : ∀ c k, c ≤ a → (sg.1 33 c).testBit k = true → k < c) (hi : i ≤ a) (hJ : attJ n sg t a i) (hb : (attD sg a).testBit i = true) :
    ∀ k, ((attI sg t (attD sg a) i).1.1 33 i).testBit k = true → (0 ≤ (attI sg t (attD sg a) i).1.2 2 k ∧ (attI sg t (attD sg a) i).1.2 2 k ≤ 996) ∧ 0 ≤ (attI sg t (attD sg a) i).1.2 3 k ∧ (attI sg t (attD sg a) i).1.2 3 k < 60 := by
  intro k hk
  rw [hJ.2.2.1] at hk
  exact hJ.2.2.2 k (hr i k hi hk) (needN_closed hr hi hb hk)
theorem attJ_no {n : Nat} {sg : sT} {t a i : Nat} (hJ : attJ n sg t a i) (hb : (attD sg a).testBit i = false) : attI sg t (attD sg a) (i + 1) = attI sg t (attD sg a) i ∧ attJ n sg t a (i + 1) := by
  have e : attI sg t (attD sg a) (i + 1) = attI sg t (attD sg a) i := by
    rw [attI_s, if_neg]
    intro g
    rw [hb] at g
    exact absurd g.2 (by decide)
  refine ⟨e, ?_⟩
  unfold attJ
  rw [e]
  refine ⟨hJ.1, okS_le hJ.2.1 (by omega), hJ.2.2.1, fun b hb2 hb3 => ?_⟩
  have hne : b ≠ i := fun q => by rw [q, hb] at hb3; exact absurd hb3 (by decide)
  exact hJ.2.2.2 b (by omega) hb3
theorem attJ_yes {n : Nat} {sg : sT} {t a i : Nat} (ht : t < 4) (ha : a < 14) (hr : ∀ c k, c ≤ a → (sg.1 33 c).testBit k = true → k < c) (hi : i ≤ a) (hJ : attJ n sg t a i) (hb : (attD sg a).testBit i = true) : attI sg t (attD sg a) (i + 1) = (obtS (attI sg t (attD sg a) i).1 t i, obtB (attI sg t (attD sg a) i).1 t i) ∧ (obtB (attI sg t (attD sg a) i).1 t i = true → attJ n sg t a (i + 1)) := by
  have e : attI sg t (attD sg a) (i + 1) = (obtS (attI sg t (attD sg a) i).1 t i, obtB (attI sg t (attD sg a) i).1 t i) := by
    rw [attI_s, if_pos ⟨hJ.1, hb⟩]
  refine ⟨e, fun ho => ?_⟩
  have hs := attJ_src hr hi hJ hb
  unfold attJ
  rw [e]
  refine ⟨ho, okS_le (obtS_ok hJ.2.1 ht (by omega) (fun k hk => (hs k hk).2)) (by omega), (obtS_33 _ _ _).trans hJ.2.2.1, fun b hb2 hb3 => ?_⟩
  by_cases q : b = i
  · subst q
    exact obtS_got hJ.2.1 ho
  · show (0 ≤ (obtS (attI sg t (attD sg a) i).1 t i).2 2 b ∧ (obtS (attI sg t (attD sg a) i).1 t i).2 2 b ≤ 996) ∧ 0 ≤ (obtS (attI sg t (attD sg a) i).1 t i).2 3 b ∧ (obtS (attI sg t (attD sg a) i).1 t i).2 3 b < 60
    rw [obtS_z (Or.inl rfl) q, obtS_z (Or.inr rfl) q]
    exact hJ.2.2.2 b (by omega) hb3
