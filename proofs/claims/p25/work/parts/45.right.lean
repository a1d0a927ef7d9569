/-! pure: with right workers, and nothing left out -/
theorem weigh_cb {S w : Nat} {f f' : Nat → Int} : ∀ {n : Nat}, (∀ k, k < n → S.testBit k = true → f' k = f k) → weighN S f' w n = weighN S f w n
  | 0, _ => rfl
  | n + 1, h => by
    rw [weighN_s, weighN_s, weigh_cb (fun k hk => h k (by omega))]
    by_cases q : S.testBit n = true
    · rw [if_pos q, if_pos q, h n (by omega) q]
    · rw [if_neg q, if_neg q]
theorem prn_cc {fi ct ac se va fi' ct' ac' se' va' : Nat → Nat} {f f' : Nat → Int} {a : Nat} (h1 : fi' a = fi a) (h2 : ac' a = ac a) (h3 : se' a = se a) (g1 : ∀ k, k < 8 → (fi a).testBit k = true → ct' k = ct k) (g2 : ∀ k, k < 14 → (ac a).testBit k = true → f' k = f k) (g3 : ∀ k, k < 6 → (se a).testBit k = true → va' k = va k) : prnN fi' ct' ac' se' va' f' a = prnN fi ct ac se va f a := by
  unfold prnN prnZ
  rw [h1, h2, h3, weigh_cb g2, weigh_cb (f := fun k => ((ct k : Nat) : Int)) (fun k hk hb => congrArg (fun z : Nat => (z : Int)) (g1 k hk hb)), weigh_cb (f := fun k => ((va k : Nat) : Int)) (fun k hk hb => congrArg (fun z : Nat => (z : Int)) (g3 k hk hb))]
def kyP (sg : sT) (e : Nat) : Prop := sg.1 13 e = prnN (sg.1 32) (fun k => sg.1 18 (e * 8 + k)) (sg.1 33) (sg.1 34) (fun k => sg.1 19 (e * 6 + k)) (fun k => sg.2 0 (e * 14 + k)) (sg.1 10 e)
def invR (sg : sT) : Prop := (∀ w, sg.1 23 w = 0) ∧ (∀ a, sg.1 35 a = 0) ∧ sg.1 0 1 = 0 ∧ ∀ e, e < sg.1 0 0 → sg.1 15 e ≠ 2 ∧ kyP sg e
theorem runP_R {sg : sT} {w a : Nat} (h : ∀ w, sg.1 23 w = 0) : runP sg w a = prnS sg a := by
  unfold runP runN
  rw [if_neg (fun z => by have h1 := z.1; rw [h w] at h1; omega)]
theorem chg_bit {va pv : Nat → Nat} {e s : Nat} : ∀ {n : Nat}, s < n → va (e * 6 + s) ≠ pv s → (chgN va pv e n).testBit s = true
  | 0, h, _ => absurd h (Nat.not_lt_zero s)
  | n + 1, h, hne => by
    rw [chgN_s]
    by_cases q : s = n
    · subst q
      rw [if_neg hne, Nat.testBit_or, Nat.testBit_two_pow_self, Bool.or_true]
    · have ih := chg_bit (n := n) (by omega) hne
      split
      · exact ih
      · rw [Nat.testBit_or, ih]; rfl
theorem inp_prn {sg : sT} {e : Nat} (hR : invR sg) (he : e < sg.1 0 0) (hin : inpS sg e) (hpr : ∀ k, k < 14 → (sg.1 33 (sg.1 10 e)).testBit k = true → sg.2 0 (e * 14 + k) = sg.2 2 k) : sg.1 13 e = prnS sg (sg.1 10 e) := by
  have hk := (hR.2.2.2 e he).2
  unfold kyP at hk
  rw [hk]
  unfold prnS
  refine prn_cc rfl rfl rfl (fun k hk hb => ?_) hpr (fun k hk hb => ?_)
  · exact of_decide_eq_true (allB_iff.mp hin.2.1 k hk) hb
  · have h3 := hin.2.2
    rw [hR.2.1] at h3
    have e0 : ∀ x, sDf x 0 = x := fun x => by unfold sDf; rw [Nat.and_zero, Nat.xor_zero]
    rw [e0] at h3
    by_cases q : sg.1 19 (e * 6 + k) = sg.1 31 k
    · exact q
    · exact absurd h3 (and_ne0 (chg_bit hk q) hb)
theorem cmpO_R {sg : sT} {e a : Nat} (h : ∀ w, runP sg w a = sg.1 13 e) : cmpO sg e a ≠ 2 := by
  unfold cmpO
  by_cases q : choS sg ((sg.1 11 e : Nat) : Int) = 0
  · rw [if_pos q]; decide
  · rw [if_neg q, if_pos (h _)]; decide
theorem cmp_R {sg : sT} {e a : Nat} (hR : invR sg) (h : ∀ w, runP sg w a = sg.1 13 e) : invR (cmpS sg e a) := by
  unfold cmpS
  by_cases q : choS sg ((sg.1 11 e : Nat) : Int) = 0
  · rw [if_pos q]; exact hR
  · rw [if_neg q, if_pos (h _)]; exact hR
theorem ky_fr {sg su : sT} {e : Nat} (hF : frm sg su) (he : e < sg.1 0 0) (h : kyP sg e) : kyP su e := by
  unfold kyP at h ⊢
  rw [fr_b1_13 hF e he, fr_b1_10 hF e he, h]
  refine (prn_cc (congrFun (fr_f32 hF) _) (congrFun (fr_f33 hF) _) (congrFun (fr_f34 hF) _) (fun k hk _ => ?_) (fun k hk _ => ?_) (fun k hk _ => ?_)).symm
  · exact fr_b1_18 hF _ (by omega)
  · exact fr_b2_0 hF _ (by omega)
  · exact fr_b1_19 hF _ (by omega)
theorem new_R {sg : sT} {t a w v : Nat} {str : Nat → Nat} (hR : invR sg) (hgo : goR (sg.1 15) str) (hv : v ≤ 1) : invR (newS sg t a w (prnS sg a) str v) := by
  have hF := fr_new sg t a w (prnS sg a) v str
  refine ⟨hR.1, hR.2.1, hR.2.2.1, fun e he => ?_⟩
  have he : e < sg.1 0 0 + 1 := he
  by_cases q : e = sg.1 0 0
  · subst q
    refine ⟨?_, ?_⟩
    · rw [show (newS sg t a w (prnS sg a) str v).1 15 (sg.1 0 0) = v from sU_s _ _ _]; omega
    · unfold kyP
      rw [show (newS sg t a w (prnS sg a) str v).1 13 (sg.1 0 0) = prnS sg a from sU_s _ _ _, show (newS sg t a w (prnS sg a) str v).1 10 (sg.1 0 0) = a from sU_s _ _ _]
      unfold prnS
      refine prn_cc rfl rfl rfl (fun k hk _ => ?_) (fun k hk hb => ?_) (fun k hk _ => ?_)
      · show sg.1 30 k = cpyN (sg.1 30) (sg.1 18) (sg.1 0 0 * 8) 8 (sg.1 0 0 * 8 + k)
        unfold cpyN
        rw [if_pos (by omega), show sg.1 0 0 * 8 + k - sg.1 0 0 * 8 = k by omega]
      · have hb : (sg.1 33 a).testBit k = true := hb
        show sg.2 2 k = psN (sg.1 33 a) (sg.2 2) (sg.2 0) (sg.1 0 0 * 14) 14 (sg.1 0 0 * 14 + k)
        unfold psN
        rw [if_pos (by omega), show sg.1 0 0 * 14 + k - sg.1 0 0 * 14 = k by omega, if_pos hb]
      · show sg.1 31 k = cpyN (sg.1 31) (sg.1 19) (sg.1 0 0 * 6) 6 (sg.1 0 0 * 6 + k)
        unfold cpyN
        rw [if_pos (by omega), show sg.1 0 0 * 6 + k - sg.1 0 0 * 6 = k by omega]
  · have he2 : e < sg.1 0 0 := by omega
    have h1 := hR.2.2.2 e he2
    refine ⟨?_, ky_fr hF he2 h1.2⟩
    rw [show (newS sg t a w (prnS sg a) str v).1 15 e = str e from sU_n _ _ q]
    exact fun z => h1.1 ((goR_2 hgo e).mp z)
theorem ent_R {sg : sT} {t a w : Nat} (hR : invR sg) : invR (entS sg t a w (prnS sg a)) := by
  unfold entS
  by_cases q : entP sg t
  · rw [if_pos q]
    by_cases r : sg.1 37 a ≤ sg.1 47 t
    · rw [if_pos r]
      have hgo : goR (sg.1 15) (roomR sg t (((sg.1 47 t : Nat) : Int) - ((sg.1 37 a : Nat) : Int))) := by
        unfold roomR
        exact (room_all 60).1
      generalize roomR sg t (((sg.1 47 t : Nat) : Int) - ((sg.1 37 a : Nat) : Int)) = rr at hgo ⊢
      exact new_R hR hgo (by decide)
    · rw [if_neg r]; exact new_R hR (goR_refl _) (Nat.le_refl _)
  · rw [if_neg q]; exact hR
theorem obt_R {sg : sT} {t a : Nat} (hR : invR sg) (ho : obtB sg t a = true) : invR (obtS sg t a) ∧ (obtS sg t a).2 2 a = ((prnS sg a : Nat) : Int) := by
  unfold obtB at ho
  unfold obtS
  by_cases q : obtH sg a = 0
  · rw [if_pos q] at ho ⊢
    by_cases r : obtW sg = 0
    · rw [if_pos r] at ho; exact absurd ho (by decide)
    · rw [if_neg r] at ho ⊢
      have hE := of_decide_eq_true ho
      have hR1 : invR (runS sg (obtW sg - 1) a) := hR
      unfold obtN
      rw [runP_R hR.1]
      exact ⟨ent_R (sg := runS sg (obtW sg - 1) a) hR1, (entS_g hE).1⟩
  · rw [if_neg q] at ho ⊢
    have hh : hitX sg a (obtH sg a - 1) := fst_hit q
    have hle : obtH sg a ≤ sg.1 0 0 := fstN_le _ _
    have he : obtH sg a - 1 < sg.1 0 0 := by omega
    generalize obtH sg a - 1 = e at ho hh he ⊢
    have hac : sg.1 10 e = a := hh.1.1
    subst hac
    have hpr : sg.1 13 e = prnS sg (sg.1 10 e) := inp_prn hR he hh.2.1 (fun k hk hb => of_decide_eq_true (allB_iff.mp hh.2.2 k hk) hb)
    have hrun : ∀ w, runP (hitS sg t e (sg.1 10 e)) w (sg.1 10 e) = (hitS sg t e (sg.1 10 e)).1 13 e := fun w => by
      rw [runP_R (sg := hitS sg t e (sg.1 10 e)) hR.1]
      exact hpr.symm
    have hno : ¬ chkP (hitS sg t e (sg.1 10 e)) e (sg.1 10 e) := fun z => cmpO_R hrun z.2
    rw [if_neg hno]
    have hR1 : invR (hitS sg t e (sg.1 10 e)) := hR
    have hR2 : invR (aftS (hitS sg t e (sg.1 10 e)) e (sg.1 10 e)) := by
      unfold aftS
      split
      · exact cmp_R hR1 hrun
      · exact hR1
    refine ⟨hR2, ?_⟩
    have h13 : (aftS (hitS sg t e (sg.1 10 e)) e (sg.1 10 e)).1 13 e = sg.1 13 e := fr_b1_13 (fr_aft (hitS sg t e (sg.1 10 e)) e (sg.1 10 e)) e he
    rw [show (gotS (aftS (hitS sg t e (sg.1 10 e)) e (sg.1 10 e)) (sg.1 10 e) ((aftS (hitS sg t e (sg.1 10 e)) e (sg.1 10 e)).1 13 e) e).2 2 (sg.1 10 e) = (((aftS (hitS sg t e (sg.1 10 e)) e (sg.1 10 e)).1 13 e : Nat) : Int) from sU_s _ _ _, h13, hpr]
theorem att_R {sg : sT} {t a : Nat} (hr : ∀ c k, (sg.1 33 c).testBit k = true → k < c) (hR : invR sg) : ∀ i, i ≤ a + 1 → (attI sg t (attD sg a) i).2 = true → invR (attI sg t (attD sg a) i).1 ∧ ∀ b, b < i → (attD sg a).testBit b = true → (attI sg t (attD sg a) i).1.2 2 b = ((clnR sg (b + 1) b : Nat) : Int)
  | 0, _, _ => ⟨hR, fun b hb => absurd hb (Nat.not_lt_zero b)⟩
  | i + 1, hi, ho => by
    rw [attI_s] at ho ⊢
    by_cases q : (attI sg t (attD sg a) i).2 = true ∧ (attD sg a).testBit i = true
    · rw [if_pos q] at ho ⊢
      obtain ⟨k1, k2⟩ := att_R hr hR i (by omega) q.1
      have hF := fr_att sg t (attD sg a) i
      obtain ⟨d1, d2⟩ := obt_R (t := t) (a := i) k1 ho
      have e1 : prnS (attI sg t (attD sg a) i).1 i = clnR sg (i + 1) i := by
        unfold prnS clnR
        rw [fr_f30 hF, fr_f31 hF, fr_f32 hF, fr_f33 hF, fr_f34 hF, cln_rec hr]
        refine prn_c (fun b hb => ?_)
        exact k2 b (hr i b hb) (needN_closed (fun c k _ h => hr c k h) (by omega) q.2 hb)
      refine ⟨d1, fun b hb hb2 => ?_⟩
      by_cases e : b = i
      · subst e; rw [← e1]; exact d2
      · show (obtS (attI sg t (attD sg a) i).1 t i).2 2 b = _
        rw [obtS_z (Or.inl rfl) e]
        exact k2 b (by omega) hb2
    · rw [if_neg q] at ho ⊢
      obtain ⟨k1, k2⟩ := att_R hr hR i (by omega) ho
      refine ⟨k1, fun b hb hb2 => ?_⟩
      have hne : b ≠ i := fun z => q ⟨ho, by rw [← z]; exact hb2⟩
      exact k2 b (by omega) hb2
theorem invR_E {sg su : sT} (h : eqE sg su) (hR : invR sg) : invR su := by
  obtain ⟨r1, r2, r3, r4⟩ := hR
  refine ⟨by rw [eE_f23 h]; exact r1, by rw [eE_f35 h]; exact r2, by rw [eE_s1 h]; exact r3, fun e he => ?_⟩
  rw [eE_s0 h] at he
  obtain ⟨g1, g2⟩ := r4 e he
  refine ⟨by rw [eE_f15 h]; exact g1, ?_⟩
  unfold kyP at g2 ⊢
  rw [eE_b1_13 h e he, eE_b1_10 h e he, g2]
  refine (prn_cc (congrFun (eE_f32 h) _) (congrFun (eE_f33 h) _) (congrFun (eE_f34 h) _) (fun k hk _ => ?_) (fun k hk _ => ?_) (fun k hk _ => ?_)).symm
  · exact eE_b1_18 h _ (by omega)
  · exact eE_b2_0 h _ (by omega)
  · exact eE_b1_19 h _ (by omega)
theorem bld_R {sg : sT} {t a : Nat} (hI : invB sg) (hR : invR sg) : invR (bldS sg t a) := by
  cases q : attB (snapS sg) t a with
  | false => exact invR_E (bldF_E q) hR
  | true =>
    have h1 := att_R (sg := snapS sg) (t := t) (a := a) hI.1.2.1 hR (a + 1) (Nat.le_refl _) q
    unfold bldS
    rw [if_pos q]
    exact h1.1
theorem dfr_R {sg : sT} {t a : Nat} (hI : invB sg) (hR : invR sg) : ¬ dfrP sg t a := by
  intro z
  have hr : ∀ c k, (sg.1 33 c).testBit k = true → k < c := hI.1.2.1
  have h1 := att_R (sg := snapS sg) (t := t) (a := a) hr hR (a + 1) (Nat.le_refl _) z.1
  have hF : frm (snapS sg) (attS (snapS sg) t a) := fr_att (snapS sg) t (attD (snapS sg) a) (a + 1)
  have c0 : clnR (attS (snapS sg) t a) (a + 1) a = clnR (snapS sg) (a + 1) a := clnR_c (sg := snapS sg) hr (fr_f30 hF) (fr_f31 hF) (fr_f32 hF) (fr_f33 hF) (fr_f34 hF) a
  have h2 := h1.2 a (Nat.lt_succ_self a) (needI _)
  refine z.2 ?_
  rw [c0]
  exact h2
theorem filA_R {sg : sT} {k v : Nat} (hR : invR sg) : invR (filA sg k v) := ⟨hR.1, hR.2.1, hR.2.2.1, hR.2.2.2⟩
theorem setA_R {sg : sT} {k v : Nat} (hR : invR sg) : invR (setA sg k v) := ⟨hR.1, hR.2.1, hR.2.2.1, hR.2.2.2⟩
theorem chkA_R {sg : sT} {v : Nat} (hR : invR sg) : invR (chkA sg v) := ⟨hR.1, hR.2.1, hR.2.2.1, hR.2.2.2⟩
theorem quoA_R {sg : sT} {t q : Nat} (hR : invR sg) : invR (quoA sg t q) := by
  have hgo := quoA_go sg t q
  unfold quoA
  generalize roomR sg t ((q : Nat) : Int) = rr at hgo ⊢
  exact ⟨hR.1, hR.2.1, hR.2.2.1, fun e he => ⟨fun z => (hR.2.2.2 e he).1 ((goR_2 hgo e).mp z), (hR.2.2.2 e he).2⟩⟩
theorem addA_R {sg : sT} {xf xa xs xc xz : Nat} (hI : invB sg) (hR : invR sg) : invR (addA sg xf xa xs 0 xc xz) := by
  refine ⟨hR.1, fun a => ?_, hR.2.2.1, fun e he => ⟨(hR.2.2.2 e he).1, ?_⟩⟩
  · show sU (sg.1 35) (sg.1 0 2) 0 a = 0
    by_cases q : a = sg.1 0 2
    · subst q; exact sU_s _ _ _
    · rw [sU_n _ _ q]; exact hR.2.1 a
  · have hk := (hR.2.2.2 e he).2
    have hne : sg.1 10 e ≠ sg.1 0 2 := by have := (hI.2.1 e he).1.1; omega
    unfold kyP at hk ⊢
    show sg.1 13 e = _
    rw [hk]
    exact (prn_cc (sU_n _ _ hne) (sU_n _ _ hne) (sU_n _ _ hne) (fun _ _ _ => rfl) (fun _ _ _ => rfl) (fun _ _ _ => rfl)).symm
theorem rck_R {sg : sT} {e : Nat} (hR : invR sg) (hP : rckP sg e) : cmpO (recG sg e) e (sg.1 10 e) ≠ 2 ∧ invR (rckS sg e) := by
  have hR1 : invR (recG sg e) := hR
  have hpr : (recG sg e).1 13 e = prnS (recG sg e) (sg.1 10 e) := inp_prn (sg := recG sg e) hR1 hP.1 hP.2.2 (fun k hk _ => (cgtZ_in hk).symm)
  have hrun : ∀ w, runP (recG sg e) w (sg.1 10 e) = (recG sg e).1 13 e := fun w => by rw [runP_R hR1.1]; exact hpr.symm
  have hO := cmpO_R (e := e) hrun
  refine ⟨hO, ?_⟩
  unfold rckS
  rw [if_neg hO]
  exact cmp_R hR1 hrun
