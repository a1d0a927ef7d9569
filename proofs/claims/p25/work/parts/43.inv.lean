/-! pure: what holds between calls, and that an attempt that went well keeps it -/
def srcP (sg : sT) (e a : Nat) : Prop := ∃ j : Nat, sg.2 1 (e * 14 + a) = ((j : Nat) : Int) ∧ j < e ∧ sg.1 10 j = a ∧ (sg.1 22 e).testBit j = true ∧ (sg.1 15 j = 2 → sg.1 15 e = 2) ∧ sg.2 0 (e * 14 + a) = ((sg.1 13 j : Nat) : Int)
def entI (sg : sT) (e : Nat) : Prop := (sg.1 10 e < sg.1 0 2 ∧ sg.1 12 e < 2 ∧ sg.1 11 e < sg.1 0 3) ∧ (sg.1 16 e = sg.1 36 (sg.1 10 e) ∧ sg.1 17 e = sg.1 37 (sg.1 10 e)) ∧ (∀ a, (sg.1 33 (sg.1 10 e)).testBit a = true → srcP sg e a) ∧ (∀ j, (sg.1 22 e).testBit j = true → sg.1 10 j < sg.1 10 e ∧ j < e)
def plaI (sg : sT) : Prop := sg.1 0 4 = 2 ∧ (∀ c k, (sg.1 33 c).testBit k = true → k < c) ∧ (∀ a, a < sg.1 0 2 → 1 ≤ sg.1 36 a ∧ 1 ≤ sg.1 37 a)
def quoI (sg : sT) : Prop := ∀ t, t < 2 → usedN (sg.1 12) (sg.1 15) (sg.1 17) t (sg.1 0 0) ≤ sg.1 47 t
def sumI (sg : sT) (x : Nat) : Prop := sumN (sg.1 25) (sg.1 0 3) + sg.1 0 1 = sg.1 0 0 + x + sumN (sg.1 27) (sg.1 0 3)
def wrkI (sg : sT) : Prop := ∀ w, sg.1 27 w ≤ sg.1 25 w ∧ sg.1 25 w ≤ sg.1 26 w
def entA (sg : sT) : Prop := ∀ e, e < sg.1 0 0 → entI sg e
def invB (sg : sT) : Prop := plaI sg ∧ entA sg ∧ quoI sg ∧ sumI sg 0 ∧ wrkI sg
def gotP (sg : sT) (b : Nat) : Prop := ∃ j : Nat, sg.2 3 b = ((j : Nat) : Int) ∧ j < sg.1 0 0 ∧ sg.1 10 j = b ∧ sg.1 15 j ≠ 2 ∧ sg.2 2 b = ((sg.1 13 j : Nat) : Int)
theorem plaI_fr {sg su : sT} (hF : frm sg su) (h : plaI sg) : plaI su := by
  unfold plaI
  rw [fr_s4 hF, fr_s2 hF, fr_f33 hF, fr_f36 hF, fr_f37 hF]
  exact h
theorem entI_fr {sg su : sT} {e : Nat} (hF : frm sg su) (hac : ∀ k, sg.1 10 k < 14) (hp : plaI sg) (he : e < sg.1 0 0) (h : entI sg e) (hst : ∀ j, j < e → (sg.1 22 e).testBit j = true → (sg.1 15 j = 2 → sg.1 15 e = 2) → (su.1 15 j = 2 → su.1 15 e = 2)) : entI su e := by
  obtain ⟨⟨h1, h2, h3⟩, ⟨h4, h5⟩, h6, h7⟩ := h
  unfold entI
  rw [fr_b1_10 hF e he, fr_b1_12 hF e he, fr_b1_11 hF e he, fr_b1_16 hF e he, fr_b1_17 hF e he, fr_b1_22 hF e he, fr_s2 hF, fr_s3 hF, fr_f36 hF, fr_f37 hF, fr_f33 hF]
  refine ⟨⟨h1, h2, h3⟩, ⟨h4, h5⟩, fun a ha => ?_, fun j hj => ?_⟩
  · obtain ⟨j, g1, g2, g3, g4, g5, g6⟩ := h6 a ha
    have ha2 := hp.2.1 _ _ ha
    have ha3 := hac e
    refine ⟨j, (fr_b2_1 hF _ (by omega)).trans g1, g2, (fr_b1_10 hF j (by omega)).trans g3, ?_, hst j g2 g4 g5, ?_⟩
    · rw [fr_b1_22 hF e he]; exact g4
    · rw [fr_b2_0 hF _ (by omega), fr_b1_13 hF j (by omega)]; exact g6
  · have h8 := h7 j hj
    rw [fr_b1_10 hF j (by omega)]
    exact h8
theorem entA_fr {sg su : sT} (hF : frm sg su) (hac : ∀ k, sg.1 10 k < 14) (hp : plaI sg) (hn : su.1 0 0 = sg.1 0 0) (h : entA sg) (hst : ∀ e j, e < sg.1 0 0 → j < e → (sg.1 22 e).testBit j = true → (sg.1 15 j = 2 → sg.1 15 e = 2) → (su.1 15 j = 2 → su.1 15 e = 2)) : entA su := by
  intro e he
  rw [hn] at he
  exact entI_fr hF hac hp he (h e he) (fun j h1 h2 h3 => hst e j he h1 h2 h3)
theorem gotP_fr {sg su : sT} {b : Nat} (hF : frm sg su) (h3 : su.2 3 b = sg.2 3 b) (h2 : su.2 2 b = sg.2 2 b) (h : gotP sg b) (hst : ∀ j, j < sg.1 0 0 → sg.1 10 j = b → sg.1 15 j ≠ 2 → su.1 15 j ≠ 2) : gotP su b := by
  obtain ⟨j, g1, g2, g3, g4, g5⟩ := h
  have hn := fr_n hF
  exact ⟨j, h3.trans g1, by omega, (fr_b1_10 hF j g2).trans g3, hst j g2 g3 g4, by rw [h2, fr_b1_13 hF j g2]; exact g5⟩
theorem goR_src {sg : sT} {f : Nat → Nat} (hf : goR (sg.1 15) f) : ∀ e j, e < sg.1 0 0 → j < e → (sg.1 22 e).testBit j = true → (sg.1 15 j = 2 → sg.1 15 e = 2) → (f j = 2 → f e = 2) := fun e j _ _ _ h h2 => (goR_2 hf e).mpr (h ((goR_2 hf j).mp h2))
theorem choS_le (sg : sT) (ex : Int) : choS sg ex ≤ sg.1 0 3 := choN_le _ _ _ _
/-- poison -/
theorem poi_src {sg : sT} {f : Nat → Nat} {x : Nat} (hx : x < sg.1 0 0) (hf : goR (sg.1 15) f) : ∀ e j, e < sg.1 0 0 → j < e → (sg.1 22 e).testBit j = true → (sg.1 15 j = 2 → sg.1 15 e = 2) → (poisN (cmpF sg x) x f (sg.1 0 0) j = 2 → poisN (cmpF sg x) x f (sg.1 0 0) e = 2) := by
  intro e j he hj hb h h2
  unfold poisN at h2 ⊢
  by_cases q : x ≤ e ∧ e < sg.1 0 0 ∧ (cmpF sg x).testBit e = true
  · rw [if_pos q]
  · rw [if_neg q]
    by_cases r : x ≤ j ∧ j < sg.1 0 0 ∧ (cmpF sg x).testBit j = true
    · exfalso
      refine q ⟨by omega, he, ?_⟩
      have r3 := r.2.2
      unfold cmpF at r3 ⊢
      rw [off_bit] at r3 ⊢
      exact fam_closed (by omega) (by omega) hj hb r3
    · rw [if_neg r] at h2
      exact (goR_2 hf e).mpr (h ((goR_2 hf j).mp h2))
theorem poi_far {sg : sT} {f : Nat → Nat} {x j : Nat} (hx : x < sg.1 0 0) (hI : entA sg) (hf : goR (sg.1 15) f) (hj : sg.1 10 j < sg.1 10 x) (hs : sg.1 15 j ≠ 2) : poisN (cmpF sg x) x f (sg.1 0 0) j ≠ 2 := by
  unfold poisN
  by_cases r : x ≤ j ∧ j < sg.1 0 0 ∧ (cmpF sg x).testBit j = true
  · exfalso
    have r3 := r.2.2
    unfold cmpF at r3
    rw [off_bit] at r3
    rcases fam_anc (fs := sg.1 22) (mu := sg.1 10) (e := x) (M := sg.1 0 0) (fun m j hm hb => ((hI m hm).2.2.2 j hb).1) _ (by omega) j r3 with h | h
    · rw [h] at hj; omega
    · omega
  · rw [if_neg r]
    exact fun z => hs ((goR_2 hf j).mp z)
theorem poi_0 {S x n : Nat} {st f : Nat → Nat} (hf : goR st f) {k : Nat} (h : poisN S x f n k = 0) : st k = 0 := by
  unfold poisN at h
  split at h
  · exact absurd h (by decide)
  · exact goR_0 hf h
theorem wrk_run {sg : sT} {w a : Nat} (h : wrkI sg) (ha : 1 ≤ sg.1 36 a) : wrkI (runS sg w a) := by
  intro k
  show sg.1 27 k ≤ sU (sg.1 25) w (sg.1 25 w + 1) k ∧ sU (sg.1 25) w (sg.1 25 w + 1) k ≤ sU (sg.1 26) w (sg.1 26 w + sg.1 36 a) k
  have h1 := h k
  by_cases e : k = w
  · subst e; rw [sU_s, sU_s]; omega
  · rw [sU_n _ _ e, sU_n _ _ e]; exact h1
theorem wrk_cmp1 {sg : sT} {w a : Nat} {z : Nat → Nat} (h : wrkI sg) (ha : 1 ≤ sg.1 36 a) : wrkI (cmp1 sg a w z) := by
  intro k
  show sU (sg.1 27) w (sg.1 27 w + 1) k ≤ sU (sg.1 25) w (sg.1 25 w + 1) k ∧ sU (sg.1 25) w (sg.1 25 w + 1) k ≤ sU (sg.1 26) w (sg.1 26 w + sg.1 36 a) k
  have h1 := h k
  by_cases e : k = w
  · subst e; rw [sU_s, sU_s, sU_s]; omega
  · rw [sU_n _ _ e, sU_n _ _ e, sU_n _ _ e]; exact h1
theorem sum_run {sg : sT} {w a x : Nat} (h : sumI sg x) (hw : w < sg.1 0 3) : sumI (runS sg w a) (x + 1) := by
  show sumN (sU (sg.1 25) w (sg.1 25 w + 1)) (sg.1 0 3) + sg.1 0 1 = sg.1 0 0 + (x + 1) + sumN (sg.1 27) (sg.1 0 3)
  rw [sum_upd, if_pos hw]
  unfold sumI at h
  omega
/-- a check -/
theorem cmp_inv {n : Nat} {sg : sT} {e a : Nat} (hok : okS n sg) (hp : plaI sg) (hA : entA sg) (hq : quoI sg) (hs : sumI sg 0) (hw : wrkI sg) (he : e < sg.1 0 0) (hac : sg.1 10 e = a) : plaI (cmpS sg e a) ∧ entA (cmpS sg e a) ∧ quoI (cmpS sg e a) ∧ wrkI (cmpS sg e a) ∧ (cmpO sg e a ≠ 2 → sumI (cmpS sg e a) 0 ∧ (cmpS sg e a).1 15 = sg.1 15) ∧ (cmpO sg e a = 2 → sumI (cmpS sg e a) 1 ∧ cmpW sg e < sg.1 0 3) ∧ (∀ b, b < a → gotP sg b → gotP (cmpS sg e a) b) := by
  have hF := fr_cmp sg e a
  have hcost : 1 ≤ sg.1 36 a := by
    have h1 := (hA e he).1.1
    rw [hac] at h1
    exact (hp.2.2 a h1).1
  have h14 := ok_ac hok
  have hg3 : ∀ b, (cmpS sg e a).2 3 b = sg.2 3 b := fun b => by rw [cmpS_z _ _ _ 3 (by decide)]
  have hg2 : ∀ b, (cmpS sg e a).2 2 b = sg.2 2 b := fun b => by rw [cmpS_z _ _ _ 2 (by decide)]
  have hcl := choS_le sg ((sg.1 11 e : Nat) : Int)
  refine ⟨plaI_fr hF hp, ?_⟩
  by_cases q : choS sg ((sg.1 11 e : Nat) : Int) = 0
  · have eS : cmpS sg e a = cmp0 sg e := if_pos q
    have eO : cmpO sg e a = 0 := if_pos q
    rw [eS, eO]
    rw [eS] at hF
    exact ⟨entA_fr hF h14 hp rfl hA (fun _ _ _ _ _ h => h), hq, hw, fun _ => ⟨hs, rfl⟩, fun z => absurd z (by decide), fun b _ hb => gotP_fr hF rfl rfl hb (fun _ _ _ h => h)⟩
  · have hcw : cmpW sg e < sg.1 0 3 := by unfold cmpW; omega
    by_cases r : runP sg (cmpW sg e) a = sg.1 13 e
    · have eS : cmpS sg e a = pR 24 (chtN (sg.1 24) (sg.1 11 e) 5 (sg.1 0 3)) (cmp1 sg a (cmpW sg e) (sU (sg.1 0) 6 (runP sg (cmpW sg e) a))) := (if_neg q).trans (if_pos r)
      have eO : cmpO sg e a = 1 := (if_neg q).trans (if_pos r)
      rw [eS, eO]
      rw [eS] at hF
      refine ⟨entA_fr hF h14 hp rfl hA (fun _ _ _ _ _ h => h), hq, wrk_cmp1 (z := sg.1 0) hw hcost, fun _ => ⟨?_, rfl⟩, fun z => absurd z (by decide), fun b _ hb => gotP_fr hF rfl rfl hb (fun _ _ _ h => h)⟩
      show sumN (sU (sg.1 25) (cmpW sg e) (sg.1 25 (cmpW sg e) + 1)) (sg.1 0 3) + sg.1 0 1 = sg.1 0 0 + 0 + sumN (sU (sg.1 27) (cmpW sg e) (sg.1 27 (cmpW sg e) + 1)) (sg.1 0 3)
      rw [sum_upd, sum_upd, if_pos hcw]
      unfold sumI at hs
      omega
    · have eO : cmpO sg e a = 2 := (if_neg q).trans (if_neg r)
      have hsum : sumN (sU (sg.1 25) (cmpW sg e) (sg.1 25 (cmpW sg e) + 1)) (sg.1 0 3) + (sg.1 0 1 + 1) = sg.1 0 0 + 1 + sumN (sU (sg.1 27) (cmpW sg e) (sg.1 27 (cmpW sg e) + 1)) (sg.1 0 3) := by
        rw [sum_upd, sum_upd, if_pos hcw]
        unfold sumI at hs
        omega
      rw [eO]
      by_cases v : cmpT sg e a = 0
      · have eS : cmpS sg e a = pR 15 (poisN (cmpF sg e) e (sg.1 15) (sg.1 0 0)) (pR 24 (chtN (sg.1 24) (sg.1 11 e) (-30) (sg.1 0 3)) (cmp1 sg a (cmpW sg e) (sU (sU (sg.1 0) 6 (runP sg (cmpW sg e) a)) 1 (sg.1 0 1 + 1)))) := (if_neg q).trans ((if_neg r).trans (if_pos v))
        rw [eS]
        rw [eS] at hF
        have hgo := goR_refl (sg.1 15)
        refine ⟨entA_fr hF h14 hp rfl hA (poi_src he hgo), ?_, wrk_cmp1 (z := sg.1 0) hw hcost, fun z => absurd rfl z, fun _ => ⟨hsum, hcw⟩, fun b hb hb2 => gotP_fr hF rfl rfl hb2 (fun j _ h1 h2 => poi_far he hA hgo (by omega) h2)⟩
        exact fun t ht => Nat.le_trans (used_mono (fun k _ h => poi_0 hgo h)) (hq t ht)
      · have eS : cmpS sg e a = pR 15 (poisN (cmpF sg e) e (dropN (sg.1 10) a (sg.1 15) (sg.1 0 0)) (sg.1 0 0)) (pR 35 (sU (sg.1 35) a (sDf (sg.1 35 a) (cmpT sg e a))) (cmp1 sg a (cmpW sg e) (sU (sU (sg.1 0) 6 (runP sg (cmpW sg e) a)) 1 (sg.1 0 1 + 1)))) := (if_neg q).trans ((if_neg r).trans (if_neg v))
        rw [eS]
        rw [eS] at hF
        have hgo := goR_drop (sg.1 10) a (sg.1 15) (sg.1 0 0)
        refine ⟨entA_fr hF h14 hp rfl hA (poi_src he hgo), ?_, wrk_cmp1 (z := sg.1 0) hw hcost, fun z => absurd rfl z, fun _ => ⟨hsum, hcw⟩, fun b hb hb2 => gotP_fr hF rfl rfl hb2 (fun j _ h1 h2 => poi_far he hA hgo (by omega) h2)⟩
        exact fun t ht => Nat.le_trans (used_mono (fun k _ h => poi_0 hgo h)) (hq t ht)
theorem fsv_bit {S j : Nat} {g : Nat → Int} : ∀ {n : Nat}, (fsvN S g n).testBit j = true ↔ ∃ b, b < n ∧ S.testBit b = true ∧ (g b).toNat = j
  | 0 => ⟨fun h => by rw [show fsvN S g 0 = 0 from rfl, Nat.zero_testBit] at h; exact absurd h (by decide), fun ⟨b, h, _⟩ => absurd h (Nat.not_lt_zero b)⟩
  | n + 1 => by
    have ih := fsv_bit (S := S) (j := j) (g := g) (n := n)
    rw [fsvN_s, Nat.testBit_or, Bool.or_eq_true, ih]
    constructor
    · rintro (⟨b, h1, h2⟩ | h)
      · exact ⟨b, by omega, h2⟩
      · split at h
        · rename_i q
          rw [Nat.testBit_two_pow] at h
          exact ⟨n, Nat.lt_succ_self n, q, of_decide_eq_true h⟩
        · rw [Nat.zero_testBit] at h; exact absurd h (by decide)
    · rintro ⟨b, h1, h2, h3⟩
      by_cases e : b = n
      · subst e
        right
        rw [if_pos h2, Nat.testBit_two_pow]
        exact decide_eq_true h3
      · exact Or.inl ⟨b, by omega, h2, h3⟩
theorem used_st {tm st su sz : Nat → Nat} {o : Nat} : ∀ {n : Nat}, (∀ k, k < n → su k = st k) → usedN tm su sz o n = usedN tm st sz o n
  | 0, _ => rfl
  | n + 1, h => by rw [usedN_s, usedN_s, used_st (fun k hk => h k (by omega)), h n (by omega)]
/-- a new entry -/
theorem new_inv {n : Nat} {sg : sT} {t a w p v : Nat} {str : Nat → Nat} (hok : okS n sg) (hp : plaI sg) (hA : entA sg) (hs : sumI sg 1) (hw : wrkI sg) (hg : ∀ b, (sg.1 33 a).testBit b = true → gotP sg b) (ht : t < 2) (ha : a < sg.1 0 2) (hw3 : w < sg.1 0 3) (hgo : goR (sg.1 15) str) (hv : v ≤ 1)
    (hq : ∀ t', t' < 2 → usedN (sg.1 12) str (sg.1 17) t' (sg.1 0 0) + (if t = t' ∧ v = 0 then sg.1 37 a else 0) ≤ sg.1 47 t') : invB (newS sg t a w p str v) ∧ gotP (newS sg t a w p str v) a ∧ ∀ b, b < a → gotP sg b → gotP (newS sg t a w p str v) b := by
  have hF := fr_new sg t a w p v str
  have h14 := ok_ac hok
  have h15 : ∀ j, j < sg.1 0 0 → (newS sg t a w p str v).1 15 j = str j := fun j hj => sU_n _ _ (by omega)
  have h15n : (newS sg t a w p str v).1 15 (sg.1 0 0) = v := sU_s _ _ _
  have h10n : (newS sg t a w p str v).1 10 (sg.1 0 0) = a := sU_s _ _ _
  have h13n : (newS sg t a w p str v).1 13 (sg.1 0 0) = p := sU_s _ _ _
  have hcn : (newS sg t a w p str v).1 0 0 = sg.1 0 0 + 1 := rfl
  have hgot : ∀ b, b < a → gotP sg b → gotP (newS sg t a w p str v) b := fun b hb h => by
    refine gotP_fr hF (sU_n _ _ (by omega)) (sU_n _ _ (by omega)) h (fun j hj _ h2 => ?_)
    rw [h15 j hj]
    exact fun z => h2 ((goR_2 hgo j).mp z)
  refine ⟨⟨plaI_fr hF hp, ?_, ?_, ?_, hw⟩, ?_, hgot⟩
  · intro e he
    rw [hcn] at he
    by_cases q : e = sg.1 0 0
    · subst q
      have e22 : (newS sg t a w p str v).1 22 (sg.1 0 0) = fsvN (sg.1 33 a) (sg.2 3) 14 := sU_s _ _ _
      unfold entI
      rw [h10n, e22]
      refine ⟨⟨ha, by rw [show (newS sg t a w p str v).1 12 (sg.1 0 0) = t from sU_s _ _ _]; exact ht, by rw [show (newS sg t a w p str v).1 11 (sg.1 0 0) = w from sU_s _ _ _]; exact hw3⟩, ⟨sU_s _ _ _, sU_s _ _ _⟩, fun b hb => ?_, fun j hj => ?_⟩
      · have hb : (sg.1 33 a).testBit b = true := hb
        have hb2 := hp.2.1 a b hb
        have hpl := (ok_sc hok).2.1
        obtain ⟨j, g1, g2, g3, g4, g5⟩ := hg b hb
        have e1 : (newS sg t a w p str v).2 1 (sg.1 0 0 * 14 + b) = sg.2 3 b := by
          show psN (sg.1 33 a) (sg.2 3) (sg.2 1) (sg.1 0 0 * 14) 14 (sg.1 0 0 * 14 + b) = _
          unfold psN
          rw [if_pos (by omega), show sg.1 0 0 * 14 + b - sg.1 0 0 * 14 = b by omega, if_pos hb]
        have e0 : (newS sg t a w p str v).2 0 (sg.1 0 0 * 14 + b) = sg.2 2 b := by
          show psN (sg.1 33 a) (sg.2 2) (sg.2 0) (sg.1 0 0 * 14) 14 (sg.1 0 0 * 14 + b) = _
          unfold psN
          rw [if_pos (by omega), show sg.1 0 0 * 14 + b - sg.1 0 0 * 14 = b by omega, if_pos hb]
        refine ⟨j, e1.trans g1, g2, (fr_b1_10 hF j g2).trans g3, ?_, ?_, ?_⟩
        · rw [e22]
          exact fsv_bit.mpr ⟨b, by omega, hb, by rw [g1]; rfl⟩
        · rw [h15 j g2]
          exact fun z => absurd ((goR_2 hgo j).mp z) g4
        · rw [e0, g5, fr_b1_13 hF j g2]
      · obtain ⟨b, b1, b2, b3⟩ := fsv_bit.mp hj
        obtain ⟨j2, g1, g2, g3, g4, g5⟩ := hg b b2
        have ej : j2 = j := by rw [g1] at b3; exact b3
        subst ej
        rw [fr_b1_10 hF j2 g2, g3]
        exact ⟨hp.2.1 a b b2, g2⟩
    · have he2 : e < sg.1 0 0 := by omega
      refine entI_fr hF h14 hp he2 (hA e he2) (fun j hj _ h => ?_)
      rw [h15 j (by omega), h15 e he2]
      exact fun z => (goR_2 hgo e).mpr (h ((goR_2 hgo j).mp z))
  · intro t' ht'
    show usedN (sU (sg.1 12) (sg.1 0 0) t) (sU str (sg.1 0 0) v) (sU (sg.1 17) (sg.1 0 0) (sg.1 37 a)) t' (sg.1 0 0 + 1) ≤ sg.1 47 t'
    rw [usedN_s, sU_s, sU_s, sU_s, used_st (st := str) (fun k hk => sU_n _ _ (by omega)), used_c (tm := sg.1 12) (sz := sg.1 17) (fun k hk => sU_n _ _ (by omega)) (fun k hk => sU_n _ _ (by omega))]
    exact hq t' ht'
  · show sumN (sg.1 25) (sg.1 0 3) + sg.1 0 1 = sg.1 0 0 + 1 + 0 + sumN (sg.1 27) (sg.1 0 3)
    unfold sumI at hs
    omega
  · refine ⟨sg.1 0 0, sU_s _ _ _, Nat.lt_succ_self _, h10n, by rw [h15n]; omega, ?_⟩
    rw [h13n]
    exact sU_s _ _ _
theorem ent_inv {n : Nat} {sg : sT} {t a w p : Nat} (hok : okS n sg) (hp : plaI sg) (hA : entA sg) (hq : quoI sg) (hs : sumI sg 1) (hw : wrkI sg) (hg : ∀ b, (sg.1 33 a).testBit b = true → gotP sg b) (ht : t < 2) (ha : a < sg.1 0 2) (hw3 : w < sg.1 0 3) (hE : entP sg t) : invB (entS sg t a w p) ∧ gotP (entS sg t a w p) a ∧ ∀ b, b < a → gotP sg b → gotP (entS sg t a w p) b := by
  have hn := (ok_sc hok).1
  unfold entS
  rw [if_pos hE]
  by_cases q : sg.1 37 a ≤ sg.1 47 t
  · rw [if_pos q]
    have hgo : goR (sg.1 15) (roomR sg t (((sg.1 47 t : Nat) : Int) - ((sg.1 37 a : Nat) : Int))) := (room_all 60).1
    refine new_inv hok hp hA hs hw hg ht ha hw3 hgo (by decide) (fun t' ht' => ?_)
    by_cases r : t = t'
    · subst r
      rw [if_pos ⟨rfl, rfl⟩]
      have h1 : ((usedN (sg.1 12) (roomR sg t (((sg.1 47 t : Nat) : Int) - ((sg.1 37 a : Nat) : Int))) (sg.1 17) t (sg.1 0 0) : Nat) : Int) ≤ ((sg.1 47 t : Nat) : Int) - ((sg.1 37 a : Nat) : Int) := room_end (by omega) hn
      omega
    · rw [if_neg (fun z => r z.1)]
      exact Nat.le_trans (used_mono (fun k _ h => goR_0 hgo h)) (hq t' ht')
  · rw [if_neg q]
    refine new_inv hok hp hA hs hw hg ht ha hw3 (goR_refl _) (Nat.le_refl _) (fun t' ht' => ?_)
    rw [if_neg (fun z => absurd z.2 (by decide))]
    exact hq t' ht'
theorem fst_hit {p : Nat → Prop} [DecidablePred p] : ∀ {n : Nat}, ¬ fstN p n = 0 → p (fstN p n - 1)
  | 0, h => absurd rfl h
  | n + 1, h => by
    rw [fstN_s] at h ⊢
    by_cases q : fstN p n = 0 ∧ p n
    · rw [if_pos q]; exact q.2
    · rw [if_neg q] at h ⊢
      exact fst_hit h
/-- one action got -/
theorem obt_inv {n : Nat} {sg : sT} {t a : Nat} (hok : okS n sg) (hI : invB sg) (ht : t < 2) (ha : a < sg.1 0 2) (hg : ∀ b, (sg.1 33 a).testBit b = true → gotP sg b) (ho : obtB sg t a = true) : invB (obtS sg t a) ∧ gotP (obtS sg t a) a ∧ ∀ b, b < a → gotP sg b → gotP (obtS sg t a) b := by
  obtain ⟨hp, hA, hq, hs, hw⟩ := hI
  have hcost := (hp.2.2 a ha).1
  unfold obtB at ho
  unfold obtS
  by_cases q : obtH sg a = 0
  · rw [if_pos q] at ho ⊢
    by_cases r : obtW sg = 0
    · rw [if_pos r] at ho; exact absurd ho (by decide)
    · rw [if_neg r] at ho ⊢
      have hwl : obtW sg ≤ sg.1 0 3 := choS_le sg _
      have hE := of_decide_eq_true ho
      exact ent_inv (runS_ok hok) hp hA hq (sum_run (x := 0) hs (by omega)) (wrk_run hw hcost) hg ht ha (show obtW sg - 1 < sg.1 0 3 by omega) hE
  · rw [if_neg q] at ho ⊢
    have hh : hitX sg a (obtH sg a - 1) := fst_hit q
    have hle : obtH sg a ≤ sg.1 0 0 := fstN_le _ _
    have he : obtH sg a - 1 < sg.1 0 0 := by omega
    generalize obtH sg a - 1 = e at ho hh he ⊢
    have hac : sg.1 10 e = a := hh.1.1
    have hst : sg.1 15 e = 0 := hh.1.2
    have hok2 := hitS_ok (t := t) (e := e) (a := a) hok
    obtain ⟨c1, c2, c3, c4, c5, c6, c7⟩ := cmp_inv (sg := hitS sg t e a) (e := e) (a := a) hok2 hp hA hq hs hw he hac
    by_cases r : chkP (hitS sg t e a) e a
    · rw [if_pos r] at ho ⊢
      have hE := of_decide_eq_true ho
      have hg2 : ∀ b, ((cmpS (hitS sg t e a) e a).1 33 a).testBit b = true → gotP (cmpS (hitS sg t e a) e a) b := fun b hb => by
        rw [cmpS_33] at hb
        exact c7 b (hp.2.1 a b hb) (hg b hb)
      have hF := fr_cmp (hitS sg t e a) e a
      obtain ⟨d1, d2, d3⟩ := ent_inv (w := cmpW (hitS sg t e a) e) (p := (cmpS (hitS sg t e a) e a).1 0 6) (cmpS_ok hok2) c1 c2 c3 (c6 r.2).1 c4 hg2 ht (by rw [fr_s2 hF]; exact ha) (by rw [fr_s3 hF]; exact (c6 r.2).2) hE
      exact ⟨d1, d2, fun b hb h => d3 b hb (c7 b hb h)⟩
    · rw [if_neg r]
      have key : invB (aftS (hitS sg t e a) e a) ∧ (aftS (hitS sg t e a) e a).1 15 = sg.1 15 ∧ ∀ b, b < a → gotP sg b → gotP (aftS (hitS sg t e a) e a) b := by
        unfold aftS
        by_cases v : dueP (hitS sg t e a)
        · rw [if_pos v]
          have hO : cmpO (hitS sg t e a) e a ≠ 2 := fun z => r ⟨v, z⟩
          exact ⟨⟨c1, c2, c3, (c5 hO).1, c4⟩, (c5 hO).2, fun b hb h => c7 b hb h⟩
        · rw [if_neg v]
          exact ⟨⟨hp, hA, hq, hs, hw⟩, rfl, fun b _ h => h⟩
      have hF : frm (hitS sg t e a) (aftS (hitS sg t e a) e a) := fr_aft _ _ _
      obtain ⟨k1, k2, k3⟩ := key
      refine ⟨k1, ⟨e, sU_s _ _ _, ?_, (fr_b1_10 hF e he).trans hac, ?_, sU_s _ _ _⟩, fun b hb h => ?_⟩
      · have h9 : (aftS (hitS sg t e a) e a).1 0 0 = sg.1 0 0 := aftS_n _ _ _
        show e < (aftS (hitS sg t e a) e a).1 0 0
        omega
      · show (aftS (hitS sg t e a) e a).1 15 e ≠ 2
        rw [k2, hst]; decide
      · exact gotP_fr (fr_got _ _ _ _) (sU_n _ _ (by omega)) (sU_n _ _ (by omega)) (k3 b hb h) (fun _ _ _ z => z)
/-- an attempt -/
theorem att_inv {n : Nat} {sg : sT} {t a : Nat} (hok : okS n sg) (hI : invB sg) (ht : t < 2) (ha : a < sg.1 0 2) : ∀ i, i ≤ a + 1 → (attI sg t (attD sg a) i).2 = true → okS (n + 2 * i) (attI sg t (attD sg a) i).1 ∧ invB (attI sg t (attD sg a) i).1 ∧ ∀ b, b < i → (attD sg a).testBit b = true → gotP (attI sg t (attD sg a) i).1 b
  | 0, _, _ => ⟨hok, hI, fun b hb => absurd hb (Nat.not_lt_zero b)⟩
  | i + 1, hi, ho => by
    have ha14 : a < 14 := by have := (ok_sc hok).2.1; omega
    have hr : ∀ c k, c ≤ a → (sg.1 33 c).testBit k = true → k < c := fun c k _ h => hI.1.2.1 c k h
    have h9 := attI_all (t := t) hok (by omega) ha14 hr (i + 1) hi
    refine ⟨h9.1, ?_⟩
    rw [attI_s] at ho ⊢
    by_cases q : (attI sg t (attD sg a) i).2 = true ∧ (attD sg a).testBit i = true
    · rw [if_pos q] at ho ⊢
      obtain ⟨k1, k2, k3⟩ := att_inv hok hI ht ha i (by omega) q.1
      have hF := fr_att sg t (attD sg a) i
      have hg : ∀ b, ((attI sg t (attD sg a) i).1.1 33 i).testBit b = true → gotP (attI sg t (attD sg a) i).1 b := fun b hb => by
        rw [fr_f33 hF] at hb
        exact k3 b (hr i b (by omega) hb) (needN_closed hr (by omega) q.2 hb)
      obtain ⟨d1, d2, d3⟩ := obt_inv k1 k2 ht (by rw [fr_s2 hF]; omega) hg ho
      refine ⟨d1, fun b hb hb2 => ?_⟩
      by_cases e : b = i
      · subst e; exact d2
      · exact d3 b (by omega) (k3 b (by omega) hb2)
    · rw [if_neg q] at ho ⊢
      obtain ⟨k1, k2, k3⟩ := att_inv hok hI ht ha i (by omega) ho
      refine ⟨k2, fun b hb hb2 => ?_⟩
      have hne : b ≠ i := fun z => q ⟨ho, by rw [← z]; exact hb2⟩
      exact k3 b (by omega) hb2
theorem inv_E {sg su : sT} (h : eqE sg su) (hac : ∀ k, sg.1 10 k < 14) (hI : invB sg) : invB su := by
  obtain ⟨⟨p1, p2, p3⟩, hA, hq, hs, hw⟩ := hI
  have e0 := eE_s0 h
  refine ⟨⟨?_, ?_, ?_⟩, ?_, ?_, ?_, ?_⟩
  · rw [eE_s4 h]; exact p1
  · rw [eE_f33 h]; exact p2
  · rw [eE_s2 h, eE_f36 h, eE_f37 h]; exact p3
  · intro e he
    rw [e0] at he
    obtain ⟨⟨h1, h2, h3⟩, ⟨h4, h5⟩, h6, h7⟩ := hA e he
    unfold entI
    rw [eE_b1_10 h e he, eE_b1_12 h e he, eE_b1_11 h e he, eE_b1_16 h e he, eE_b1_17 h e he, eE_b1_22 h e he, eE_s2 h, eE_s3 h, eE_f36 h, eE_f37 h, eE_f33 h]
    refine ⟨⟨h1, h2, h3⟩, ⟨h4, h5⟩, fun a ha => ?_, fun j hj => ?_⟩
    · obtain ⟨j, g1, g2, g3, g4, g5, g6⟩ := h6 a ha
      have ha2 := p2 _ _ ha
      have ha3 := hac e
      refine ⟨j, (eE_b2_1 h _ (by omega)).trans g1, g2, (eE_b1_10 h j (by omega)).trans g3, ?_, ?_, ?_⟩
      · rw [eE_b1_22 h e he]; exact g4
      · rw [eE_f15 h]; exact g5
      · rw [eE_b2_0 h _ (by omega), eE_b1_13 h j (by omega)]; exact g6
    · have h8 := h7 j hj
      rw [eE_b1_10 h j (by omega)]
      exact h8
  · intro t ht
    rw [e0, eE_f15 h, eE_f47 h, used_c (eE_b1_12 h) (eE_b1_17 h)]
    exact hq t ht
  · unfold sumI
    rw [e0, eE_f25 h, eE_f27 h, eE_s3 h, eE_s1 h]
    exact hs
  · unfold wrkI
    rw [eE_f25 h, eE_f26 h, eE_f27 h]
    exact hw
theorem bld_inv {n : Nat} {sg : sT} {t a : Nat} (hok : okS n sg) (hI : invB sg) (ht : t < 2) (ha : a < sg.1 0 2) : invB (bldS sg t a) := by
  cases q : attB (snapS sg) t a with
  | false => exact inv_E (bldF_E q) (ok_ac hok) hI
  | true =>
    have h1 := att_inv (sg := snapS sg) (t := t) (a := a) (snapS_ok hok) hI ht ha (a + 1) (Nat.le_refl _) q
    unfold bldS
    rw [if_pos q]
    exact h1.2.1
