/-! pure: the calls that change keep what holds -/
theorem addA_ok {n : Nat} {sg : sT} {xf xa xs xo xc xz : Nat} (h : okS n sg) (hc : sg.1 0 2 < 14) (h1 : xf < 256) (h2 : xa < 16384) (h3 : xs < 64) (h4 : xo < 64) (h5 : xc ≤ 50) (h6 : xz ≤ 20) : okS n (addA sg xf xa xs xo xc xz) := by
  obtain ⟨k1, k2, k3, k4, k5, k6, k7, k8⟩ := ok_sc h
  exact ⟨(ok_ac (n := n) (sg := sg) h), (ok_wo (n := n) (sg := sg) h), (ok_tm (n := n) (sg := sg) h), (ok_pr (n := n) (sg := sg) h), (ok_hi (n := n) (sg := sg) h), (ok_st (n := n) (sg := sg) h), (ok_co (n := n) (sg := sg) h), (ok_sz (n := n) (sg := sg) h), (ok_ct (n := n) (sg := sg) h), (ok_va (n := n) (sg := sg) h), (ok_fs (n := n) (sg := sg) h), (ok_fa (n := n) (sg := sg) h), (ok_tr (n := n) (sg := sg) h), (ok_ru (n := n) (sg := sg) h), (ok_bu (n := n) (sg := sg) h), (ok_ch (n := n) (sg := sg) h), (ok_zc (n := n) (sg := sg) h), (ok_zv (n := n) (sg := sg) h), (sU_all (P := fun z => z < 256) (ok_zf (n := n) (sg := sg) h) h1), (sU_all (P := fun z => z < 16384) (ok_za (n := n) (sg := sg) h) h2), (sU_all (P := fun z => z < 64) (ok_zs (n := n) (sg := sg) h) h3), (sU_all (P := fun z => z < 64) (ok_zo (n := n) (sg := sg) h) h4), (sU_all (P := fun z => z ≤ 50) (ok_zco (n := n) (sg := sg) h) h5), (sU_all (P := fun z => z ≤ 20) (ok_zsz (n := n) (sg := sg) h) h6), (ok_cl (n := n) (sg := sg) h), (ok_qu (n := n) (sg := sg) h), (ok_ps (n := n) (sg := sg) h), (ok_fr (n := n) (sg := sg) h), (ok_gp (n := n) (sg := sg) h), (ok_ge (n := n) (sg := sg) h), ⟨k1, (show sg.1 0 2 + 1 ≤ 14 by omega), k3, k4, k5, k6, k7, k8⟩⟩
theorem filA_ok {n : Nat} {sg : sT} {k v : Nat} (h : okS n sg) (hv : v ≤ 99) : okS n (filA sg k v) := ⟨(ok_ac (n := n) (sg := sg) h), (ok_wo (n := n) (sg := sg) h), (ok_tm (n := n) (sg := sg) h), (ok_pr (n := n) (sg := sg) h), (ok_hi (n := n) (sg := sg) h), (ok_st (n := n) (sg := sg) h), (ok_co (n := n) (sg := sg) h), (ok_sz (n := n) (sg := sg) h), (ok_ct (n := n) (sg := sg) h), (ok_va (n := n) (sg := sg) h), (ok_fs (n := n) (sg := sg) h), (ok_fa (n := n) (sg := sg) h), (ok_tr (n := n) (sg := sg) h), (ok_ru (n := n) (sg := sg) h), (ok_bu (n := n) (sg := sg) h), (ok_ch (n := n) (sg := sg) h), (sU_all (P := fun z => z ≤ 99) (ok_zc (n := n) (sg := sg) h) hv), (ok_zv (n := n) (sg := sg) h), (ok_zf (n := n) (sg := sg) h), (ok_za (n := n) (sg := sg) h), (ok_zs (n := n) (sg := sg) h), (ok_zo (n := n) (sg := sg) h), (ok_zco (n := n) (sg := sg) h), (ok_zsz (n := n) (sg := sg) h), (ok_cl (n := n) (sg := sg) h), (ok_qu (n := n) (sg := sg) h), (ok_ps (n := n) (sg := sg) h), (ok_fr (n := n) (sg := sg) h), (ok_gp (n := n) (sg := sg) h), (ok_ge (n := n) (sg := sg) h), (ok_sc (n := n) (sg := sg) h)⟩
theorem setA_ok {n : Nat} {sg : sT} {k v : Nat} (h : okS n sg) (hv : v ≤ 9) : okS n (setA sg k v) := ⟨(ok_ac (n := n) (sg := sg) h), (ok_wo (n := n) (sg := sg) h), (ok_tm (n := n) (sg := sg) h), (ok_pr (n := n) (sg := sg) h), (ok_hi (n := n) (sg := sg) h), (ok_st (n := n) (sg := sg) h), (ok_co (n := n) (sg := sg) h), (ok_sz (n := n) (sg := sg) h), (ok_ct (n := n) (sg := sg) h), (ok_va (n := n) (sg := sg) h), (ok_fs (n := n) (sg := sg) h), (ok_fa (n := n) (sg := sg) h), (ok_tr (n := n) (sg := sg) h), (ok_ru (n := n) (sg := sg) h), (ok_bu (n := n) (sg := sg) h), (ok_ch (n := n) (sg := sg) h), (ok_zc (n := n) (sg := sg) h), (sU_all (P := fun z => z ≤ 9) (ok_zv (n := n) (sg := sg) h) hv), (ok_zf (n := n) (sg := sg) h), (ok_za (n := n) (sg := sg) h), (ok_zs (n := n) (sg := sg) h), (ok_zo (n := n) (sg := sg) h), (ok_zco (n := n) (sg := sg) h), (ok_zsz (n := n) (sg := sg) h), (ok_cl (n := n) (sg := sg) h), (ok_qu (n := n) (sg := sg) h), (ok_ps (n := n) (sg := sg) h), (ok_fr (n := n) (sg := sg) h), (ok_gp (n := n) (sg := sg) h), (ok_ge (n := n) (sg := sg) h), (ok_sc (n := n) (sg := sg) h)⟩
theorem chkA_ok {n : Nat} {sg : sT} {v : Nat} (h : okS n sg) (hv : v ≤ 9) : okS n (chkA sg v) := by
  obtain ⟨k1, k2, k3, k4, k5, k6, k7, k8⟩ := ok_sc h
  exact ⟨(ok_ac (n := n) (sg := sg) h), (ok_wo (n := n) (sg := sg) h), (ok_tm (n := n) (sg := sg) h), (ok_pr (n := n) (sg := sg) h), (ok_hi (n := n) (sg := sg) h), (ok_st (n := n) (sg := sg) h), (ok_co (n := n) (sg := sg) h), (ok_sz (n := n) (sg := sg) h), (ok_ct (n := n) (sg := sg) h), (ok_va (n := n) (sg := sg) h), (ok_fs (n := n) (sg := sg) h), (ok_fa (n := n) (sg := sg) h), (ok_tr (n := n) (sg := sg) h), (ok_ru (n := n) (sg := sg) h), (ok_bu (n := n) (sg := sg) h), (ok_ch (n := n) (sg := sg) h), (ok_zc (n := n) (sg := sg) h), (ok_zv (n := n) (sg := sg) h), (ok_zf (n := n) (sg := sg) h), (ok_za (n := n) (sg := sg) h), (ok_zs (n := n) (sg := sg) h), (ok_zo (n := n) (sg := sg) h), (ok_zco (n := n) (sg := sg) h), (ok_zsz (n := n) (sg := sg) h), (ok_cl (n := n) (sg := sg) h), (ok_qu (n := n) (sg := sg) h), (ok_ps (n := n) (sg := sg) h), (ok_fr (n := n) (sg := sg) h), (ok_gp (n := n) (sg := sg) h), (ok_ge (n := n) (sg := sg) h), ⟨k1, k2, k3, k4, hv, k6, k7, k8⟩⟩
theorem quo_b {n : Nat} {sg : sT} (h : okS n sg) (t : Nat) (z : Int) (k : Nat) : roomR sg t z k ≤ 2 := by
  unfold roomR
  exact roomS_b (ok_st h) _ k
theorem quoA_ok {n : Nat} {sg : sT} {t q : Nat} (h : okS n sg) (hq : q ≤ 100) : okS n (quoA sg t q) := by
  have hb := quo_b h t ((q : Nat) : Int)
  unfold quoA
  generalize roomR sg t ((q : Nat) : Int) = rr at hb ⊢
  exact ⟨(ok_ac (n := n) (sg := sg) h), (ok_wo (n := n) (sg := sg) h), (ok_tm (n := n) (sg := sg) h), (ok_pr (n := n) (sg := sg) h), (ok_hi (n := n) (sg := sg) h), hb, (ok_co (n := n) (sg := sg) h), (ok_sz (n := n) (sg := sg) h), (ok_ct (n := n) (sg := sg) h), (ok_va (n := n) (sg := sg) h), (ok_fs (n := n) (sg := sg) h), (ok_fa (n := n) (sg := sg) h), (ok_tr (n := n) (sg := sg) h), (ok_ru (n := n) (sg := sg) h), (ok_bu (n := n) (sg := sg) h), (ok_ch (n := n) (sg := sg) h), (ok_zc (n := n) (sg := sg) h), (ok_zv (n := n) (sg := sg) h), (ok_zf (n := n) (sg := sg) h), (ok_za (n := n) (sg := sg) h), (ok_zs (n := n) (sg := sg) h), (ok_zo (n := n) (sg := sg) h), (ok_zco (n := n) (sg := sg) h), (ok_zsz (n := n) (sg := sg) h), (ok_cl (n := n) (sg := sg) h), (sU_all (P := fun z => z ≤ 100) (ok_qu (n := n) (sg := sg) h) hq), (ok_ps (n := n) (sg := sg) h), (ok_fr (n := n) (sg := sg) h), (ok_gp (n := n) (sg := sg) h), (ok_ge (n := n) (sg := sg) h), (ok_sc (n := n) (sg := sg) h)⟩
theorem wrkA_ok {n : Nat} {sg : sT} {f : Nat} (h : okS n sg) (hf : f ≤ 9) (hc : sg.1 0 3 < 4) : okS n (wrkA sg f) := by
  obtain ⟨k1, k2, k3, k4, k5, k6, k7, k8⟩ := ok_sc h
  exact ⟨(ok_ac (n := n) (sg := sg) h), (ok_wo (n := n) (sg := sg) h), (ok_tm (n := n) (sg := sg) h), (ok_pr (n := n) (sg := sg) h), (ok_hi (n := n) (sg := sg) h), (ok_st (n := n) (sg := sg) h), (ok_co (n := n) (sg := sg) h), (ok_sz (n := n) (sg := sg) h), (ok_ct (n := n) (sg := sg) h), (ok_va (n := n) (sg := sg) h), (ok_fs (n := n) (sg := sg) h), (sU_all (P := fun z => z ≤ 9) (ok_fa (n := n) (sg := sg) h) hf), (sU_all (P := fun z => z ≤ 100) (ok_tr (n := n) (sg := sg) h) (by decide)), (ok_ru (n := n) (sg := sg) h), (ok_bu (n := n) (sg := sg) h), (ok_ch (n := n) (sg := sg) h), (ok_zc (n := n) (sg := sg) h), (ok_zv (n := n) (sg := sg) h), (ok_zf (n := n) (sg := sg) h), (ok_za (n := n) (sg := sg) h), (ok_zs (n := n) (sg := sg) h), (ok_zo (n := n) (sg := sg) h), (ok_zco (n := n) (sg := sg) h), (ok_zsz (n := n) (sg := sg) h), (ok_cl (n := n) (sg := sg) h), (ok_qu (n := n) (sg := sg) h), (ok_ps (n := n) (sg := sg) h), (ok_fr (n := n) (sg := sg) h), (ok_gp (n := n) (sg := sg) h), (ok_ge (n := n) (sg := sg) h), ⟨k1, k2, (show sg.1 0 3 + 1 ≤ 4 by omega), k4, k5, k6, k7, k8⟩⟩
theorem temA_ok {n : Nat} {sg : sT} {q : Nat} (h : okS n sg) (hq : q ≤ 100) (hc : sg.1 0 4 < 4) : okS n (temA sg q) := by
  obtain ⟨k1, k2, k3, k4, k5, k6, k7, k8⟩ := ok_sc h
  exact ⟨(ok_ac (n := n) (sg := sg) h), (ok_wo (n := n) (sg := sg) h), (ok_tm (n := n) (sg := sg) h), (ok_pr (n := n) (sg := sg) h), (ok_hi (n := n) (sg := sg) h), (ok_st (n := n) (sg := sg) h), (ok_co (n := n) (sg := sg) h), (ok_sz (n := n) (sg := sg) h), (ok_ct (n := n) (sg := sg) h), (ok_va (n := n) (sg := sg) h), (ok_fs (n := n) (sg := sg) h), (ok_fa (n := n) (sg := sg) h), (ok_tr (n := n) (sg := sg) h), (ok_ru (n := n) (sg := sg) h), (ok_bu (n := n) (sg := sg) h), (ok_ch (n := n) (sg := sg) h), (ok_zc (n := n) (sg := sg) h), (ok_zv (n := n) (sg := sg) h), (ok_zf (n := n) (sg := sg) h), (ok_za (n := n) (sg := sg) h), (ok_zs (n := n) (sg := sg) h), (ok_zo (n := n) (sg := sg) h), (ok_zco (n := n) (sg := sg) h), (ok_zsz (n := n) (sg := sg) h), (ok_cl (n := n) (sg := sg) h), (sU_all (P := fun z => z ≤ 100) (ok_qu (n := n) (sg := sg) h) hq), (ok_ps (n := n) (sg := sg) h), (ok_fr (n := n) (sg := sg) h), (ok_gp (n := n) (sg := sg) h), (ok_ge (n := n) (sg := sg) h), ⟨k1, k2, k3, (show sg.1 0 4 + 1 ≤ 4 by omega), k5, k6, k7, k8⟩⟩
theorem part_lt {a p k : Nat} (h : sDf a (2 ^ p - 1) = 0) (hk : a.testBit k = true) : k < p := by
  have h1 : (sDf a (2 ^ p - 1)).testBit k = false := by rw [h, Nat.zero_testBit]
  rw [sDf_bit, hk, Nat.testBit_two_pow_sub_one] at h1
  by_cases q : k < p
  · exact q
  · rw [decide_eq_false q] at h1; exact absurd h1 (by decide)
theorem addA_inv {sg : sT} {xf xa xs xo xc xz : Nat} (hI : invB sg) (h3 : sDf xa (2 ^ sg.1 0 2 - 1) = 0) (h5 : 1 ≤ xc) (h6 : 1 ≤ xz) : invB (addA sg xf xa xs xo xc xz) := by
  obtain ⟨⟨p1, p2, p3⟩, hA, hq, hs, hw⟩ := hI
  refine ⟨⟨p1, fun c k hk => ?_, fun a ha => ?_⟩, fun e he => ?_, hq, hs, hw⟩
  · have hk : (sU (sg.1 33) (sg.1 0 2) xa c).testBit k = true := hk
    by_cases q : c = sg.1 0 2
    · subst q; rw [sU_s] at hk; exact part_lt h3 hk
    · rw [sU_n _ _ q] at hk; exact p2 c k hk
  · have ha : a < sg.1 0 2 + 1 := ha
    show 1 ≤ sU (sg.1 36) (sg.1 0 2) xc a ∧ 1 ≤ sU (sg.1 37) (sg.1 0 2) xz a
    by_cases q : a = sg.1 0 2
    · subst q; rw [sU_s, sU_s]; exact ⟨h5, h6⟩
    · rw [sU_n _ _ q, sU_n _ _ q]; exact p3 a (by omega)
  · obtain ⟨⟨h1, h2, h3⟩, ⟨h4, h5⟩, h6, h7⟩ := hA e he
    have hne : sg.1 10 e ≠ sg.1 0 2 := by omega
    refine ⟨⟨Nat.lt_succ_of_lt h1, h2, h3⟩, ⟨?_, ?_⟩, fun a ha => ?_, h7⟩
    · show sg.1 16 e = sU (sg.1 36) (sg.1 0 2) xc (sg.1 10 e)
      rw [sU_n _ _ hne]; exact h4
    · show sg.1 17 e = sU (sg.1 37) (sg.1 0 2) xz (sg.1 10 e)
      rw [sU_n _ _ hne]; exact h5
    · have ha : (sU (sg.1 33) (sg.1 0 2) xa (sg.1 10 e)).testBit a = true := ha
      rw [sU_n _ _ hne] at ha
      exact h6 a ha
theorem filA_inv {sg : sT} {k v : Nat} (hI : invB sg) : invB (filA sg k v) := ⟨hI.1, hI.2.1, hI.2.2.1, hI.2.2.2.1, hI.2.2.2.2⟩
theorem setA_inv {sg : sT} {k v : Nat} (hI : invB sg) : invB (setA sg k v) := ⟨hI.1, hI.2.1, hI.2.2.1, hI.2.2.2.1, hI.2.2.2.2⟩
theorem chkA_inv {sg : sT} {v : Nat} (hI : invB sg) : invB (chkA sg v) := ⟨hI.1, hI.2.1, hI.2.2.1, hI.2.2.2.1, hI.2.2.2.2⟩
theorem quoA_go (sg : sT) (t q : Nat) : goR (sg.1 15) (roomR sg t ((q : Nat) : Int)) := by
  unfold roomR
  exact (room_all 60).1
theorem quoA_end {n : Nat} {sg : sT} (hok : okS n sg) (t q : Nat) : usedN (sg.1 12) (roomR sg t ((q : Nat) : Int)) (sg.1 17) t (sg.1 0 0) ≤ q := by
  have hn := (ok_sc hok).1
  have h1 : ((usedN (sg.1 12) (roomR sg t ((q : Nat) : Int)) (sg.1 17) t (sg.1 0 0) : Nat) : Int) ≤ ((q : Nat) : Int) := by
    unfold roomR
    exact room_end (by omega) hn
  omega
theorem quoA_inv {n : Nat} {sg : sT} {t q : Nat} (hok : okS n sg) (hI : invB sg) : invB (quoA sg t q) := by
  obtain ⟨hp, hA, hq, hs, hw⟩ := hI
  have hgo := quoA_go sg t q
  have hend := quoA_end hok t q
  have h14 := ok_ac hok
  unfold quoA
  generalize roomR sg t ((q : Nat) : Int) = rr at hgo hend ⊢
  refine ⟨hp, ?_, fun t' ht' => ?_, hs, hw⟩
  · have h9 : entA (pR 15 rr sg) := entA_fr (sg := sg) (su := pR 15 rr sg) (fr_15 _ _) h14 hp rfl hA (goR_src hgo)
    exact h9
  · show usedN (sg.1 12) rr (sg.1 17) t' (sg.1 0 0) ≤ sU (sg.1 47) t q t'
    by_cases r : t' = t
    · subst r
      rw [sU_s]
      exact hend
    · rw [sU_n _ _ r]
      exact Nat.le_trans (used_mono (fun k _ h => goR_0 hgo h)) (hq t' ht')
theorem quoA_say {n : Nat} {sg : sT} {t q : Nat} (hok : okS n sg) : insN ((quoA sg t q).1 15) 1 (sg.1 0 0) = insN (sg.1 15) 1 (sg.1 0 0) + quoN sg t q ∧ usedN (sg.1 12) ((quoA sg t q).1 15) (sg.1 17) t (sg.1 0 0) ≤ q := by
  have hend := quoA_end hok t q
  have hin : insN (roomR sg t ((q : Nat) : Int)) 1 (sg.1 0 0) = insN (sg.1 15) 1 (sg.1 0 0) + quoN sg t q := by
    unfold roomR quoN
    exact (room_all 60).2.2
  unfold quoA
  generalize roomR sg t ((q : Nat) : Int) = rr at hin hend ⊢
  exact ⟨hin, hend⟩
theorem cmpS_w (sg : sT) (e a : Nat) : (cmpS sg e a).1 0 1 = sg.1 0 1 + if cmpO sg e a = 2 then 1 else 0 := by
  unfold cmpS cmpO
  by_cases q : choS sg ((sg.1 11 e : Nat) : Int) = 0
  · rw [if_pos q, if_pos q]; rfl
  · rw [if_neg q, if_neg q]
    by_cases r : runP sg (cmpW sg e) a = sg.1 13 e
    · rw [if_pos r, if_pos r]; rfl
    · rw [if_neg r, if_neg r]
      split <;> rfl
theorem entS_w (sg : sT) (t a w p : Nat) : (entS sg t a w p).1 0 1 = sg.1 0 1 := by
  unfold entS
  split
  · split <;> rfl
  · rfl
theorem rec_src {n : Nat} {sg : sT} {e : Nat} (hok : okS n sg) (hI : invB sg) (hP : rckP sg e) : ∀ b, (sg.1 33 (sg.1 10 e)).testBit b = true → b < 14 ∧ gotP (recG sg e) b ∧ (0 ≤ sg.2 0 (e * 14 + b) ∧ sg.2 0 (e * 14 + b) ≤ 996) ∧ 0 ≤ sg.2 1 (e * 14 + b) ∧ sg.2 1 (e * 14 + b) < 60 := by
  intro b hb
  have h1 := hI.1.2.1 _ _ hb
  have h2 := ok_ac hok e
  have hn := (ok_sc hok).1
  have he := hP.1
  obtain ⟨j, g1, g2, g3, g4, g5, g6⟩ := (hI.2.1 e he).2.2.1 b hb
  have h13 := ok_pr hok j
  refine ⟨by omega, ⟨j, ?_, by show j < sg.1 0 0; omega, g3, ?_, ?_⟩, by rw [g6]; omega, by rw [g1]; omega⟩
  · show cgtZ (sg.2 1) (sg.2 3) (e * 14) 14 b = _
    rw [cgtZ_in (by omega)]; exact g1
  · show sg.1 15 j ≠ 2
    have h0 := hP.2.1.1
    exact fun z => by have := g5 z; omega
  · show cgtZ (sg.2 0) (sg.2 2) (e * 14) 14 b = _
    rw [cgtZ_in (by omega)]; exact g6
theorem rck_inv {n : Nat} {sg : sT} {e : Nat} (hok : okS n sg) (hI : invB sg) (hP : rckP sg e) : invB (rckS sg e) ∧ okS (n + 1) (rckS sg e) ∧ (rckS sg e).1 0 1 = sg.1 0 1 + if cmpO (recG sg e) e (sg.1 10 e) = 2 then 1 else 0 := by
  have hsrc := rec_src hok hI hP
  have hok2 : okS n (recG sg e) := recG_ok hok
  obtain ⟨hp, hA, hq, hs, hw⟩ := hI
  obtain ⟨c1, c2, c3, c4, c5, c6, c7⟩ := cmp_inv (sg := recG sg e) (e := e) (a := sg.1 10 e) hok2 hp hA hq hs hw hP.1 rfl
  have hcok := cmpS_ok (e := e) (a := sg.1 10 e) hok2
  have hcw := cmpS_w (recG sg e) e (sg.1 10 e)
  have hF := fr_cmp (recG sg e) e (sg.1 10 e)
  have hac := (hA e hP.1).1
  unfold rckS
  by_cases q : cmpO (recG sg e) e (sg.1 10 e) = 2
  · rw [if_pos q, if_pos q]
    rw [if_pos q] at hcw
    have ht : (cmpS (recG sg e) e (sg.1 10 e)).1 12 e = sg.1 12 e := fr_b1_12 hF e hP.1
    have hcn := cmpS_n (recG sg e) e (sg.1 10 e)
    have hE : entP (cmpS (recG sg e) e (sg.1 10 e)) ((cmpS (recG sg e) e (sg.1 10 e)).1 12 e) := by
      refine ⟨?_, ?_⟩
      · rw [hcn]; exact hP.2.1.2
      · rw [fr_s4 hF, ht, show (recG sg e).1 0 4 = 2 from hp.1]; exact hac.2.1
    have hg : ∀ b, ((cmpS (recG sg e) e (sg.1 10 e)).1 33 (sg.1 10 e)).testBit b = true → gotP (cmpS (recG sg e) e (sg.1 10 e)) b := fun b hb => by
      rw [cmpS_33] at hb
      exact c7 b (hp.2.1 _ b hb) (hsrc b hb).2.1
    have hcwb := cmpW_b (e := e) hok2
    obtain ⟨d1, d2, d3⟩ := ent_inv (t := (cmpS (recG sg e) e (sg.1 10 e)).1 12 e) (w := cmpW (recG sg e) e) (p := (cmpS (recG sg e) e (sg.1 10 e)).1 0 6) hcok c1 c2 c3 (c6 q).1 c4 hg (by rw [ht]; exact hac.2.1) (by rw [fr_s2 hF]; exact hac.1) (by rw [fr_s3 hF]; exact (c6 q).2) hE
    refine ⟨d1, entS_ok hcok (ok_tm hcok e) (ok_ac hok e) (by omega) (ok_sc hcok).2.2.2.2.2.1 (fun k hk => ?_), (entS_w _ _ _ _ _).trans hcw⟩
    rw [cmpS_33] at hk
    rw [cmpS_z _ _ _ 3 (by decide)]
    have h9 := hsrc k hk
    show 0 ≤ cgtZ (sg.2 1) (sg.2 3) (e * 14) 14 k ∧ cgtZ (sg.2 1) (sg.2 3) (e * 14) 14 k < 60
    rw [cgtZ_in h9.1]; exact h9.2.2.2
  · rw [if_neg q, if_neg q]
    rw [if_neg q] at hcw
    exact ⟨⟨c1, c2, c3, (c5 q).1, c4⟩, hcok, hcw⟩
theorem run_up (sg : sT) (w a k : Nat) : sg.1 25 k ≤ (runS sg w a).1 25 k := by
  show sg.1 25 k ≤ sU (sg.1 25) w (sg.1 25 w + 1) k
  by_cases e : k = w
  · subst e; rw [sU_s]; omega
  · rw [sU_n _ _ e]; omega
theorem cmp_up (sg : sT) (e a k : Nat) : sg.1 25 k ≤ (cmpS sg e a).1 25 k := by
  have h := run_up sg (cmpW sg e) a k
  unfold cmpS
  split
  · exact Nat.le_refl _
  · split
    · exact h
    · split
      · exact h
      · exact h
theorem ent_25 (sg : sT) (t a w p : Nat) : (entS sg t a w p).1 25 = sg.1 25 := by
  unfold entS
  split
  · split <;> rfl
  · rfl
theorem obt_up (sg : sT) (t a k : Nat) : sg.1 25 k ≤ (obtS sg t a).1 25 k := by
  unfold obtS
  split
  · split
    · exact Nat.le_refl _
    · unfold obtN; rw [ent_25]; exact run_up _ _ _ _
  · split
    · rw [ent_25]; exact cmp_up (hitS sg t (obtH sg a - 1) a) _ _ k
    · show sg.1 25 k ≤ (aftS (hitS sg t (obtH sg a - 1) a) (obtH sg a - 1) a).1 25 k
      unfold aftS
      split
      · exact cmp_up (hitS sg t (obtH sg a - 1) a) _ _ k
      · exact Nat.le_refl _
theorem att_up (sg : sT) (t nd k : Nat) : ∀ i, sg.1 25 k ≤ (attI sg t nd i).1.1 25 k
  | 0 => Nat.le_refl _
  | i + 1 => by
    rw [attI_s]
    split
    · exact Nat.le_trans (att_up sg t nd k i) (obt_up _ _ _ _)
    · exact att_up sg t nd k i
theorem cln_hi {fi ct ac se va cl : Nat → Nat} {k : Nat} : ∀ m, clnA fi ct ac se va cl (k + 1 + m) k = clnA fi ct ac se va cl (k + 1) k
  | 0 => rfl
  | m + 1 => by
    show sU (clnA fi ct ac se va cl (k + 1 + m)) (k + 1 + m) _ k = _
    rw [sU_n _ _ (by omega)]
    exact cln_hi m
theorem cln_at {fi ct ac se va cl : Nat → Nat} (k : Nat) : clnA fi ct ac se va cl (k + 1) k = prnN fi ct ac se va (fun j => ((clnA fi ct ac se va cl k j : Nat) : Int)) k := sU_s _ _ _
theorem cln_rec {fi ct ac se va cl : Nat → Nat} (hr : ∀ c k, (ac c).testBit k = true → k < c) (k : Nat) : clnA fi ct ac se va cl (k + 1) k = prnN fi ct ac se va (fun j => ((clnA fi ct ac se va cl (j + 1) j : Nat) : Int)) k := by
  rw [cln_at]
  refine prn_c (fun b hb => ?_)
  have h1 := hr k b hb
  have e : k = b + 1 + (k - (b + 1)) := by omega
  have h2 := cln_hi (fi := fi) (ct := ct) (ac := ac) (se := se) (va := va) (cl := cl) (k := b) (k - (b + 1))
  rw [← e] at h2
  rw [h2]
theorem cln_any {fi ct ac se va cl cl' : Nat → Nat} (hr : ∀ c k, (ac c).testBit k = true → k < c) (k : Nat) : clnA fi ct ac se va cl' (k + 1) k = clnA fi ct ac se va cl (k + 1) k := by
  induction k using Nat.strongRecOn with
  | _ k ih =>
    rw [cln_rec hr, cln_rec (cl := cl) hr]
    refine prn_c (fun b hb => ?_)
    rw [ih b (hr k b hb)]
theorem clnR_c {sg su : sT} (hr : ∀ c k, (sg.1 33 c).testBit k = true → k < c) (h30 : su.1 30 = sg.1 30) (h31 : su.1 31 = sg.1 31) (h32 : su.1 32 = sg.1 32) (h33 : su.1 33 = sg.1 33) (h34 : su.1 34 = sg.1 34) (a : Nat) : clnR su (a + 1) a = clnR sg (a + 1) a := by
  unfold clnR
  rw [h30, h31, h32, h33, h34]
  exact cln_any hr a
theorem snap_c {sg su : sT} (h : eqE sg su) : eqE (snapS sg) (snapS su) := eE_trans (eE_trans (eE_symm (snap_E sg)) h) (snap_E su)
/-- a build, as it was foreseen -/
theorem bld_say {sg s1 s2 : sT} {t a : Nat} (hI : invB sg) (e1 : eqE sg s1) (e2 : eqE sg s2) (hb : attB (snapS s2) t a = true) : 0 ≤ ahdZ sg t a ∧ ((sumN ((bldS s2 t a).1 25) ((bldS s2 t a).1 0 3) : Nat) : Int) = ((sumN (sg.1 25) (sg.1 0 3) : Nat) : Int) + ahdZ sg t a ∧ (dfrP s1 t a ↔ ¬ (bldS s2 t a).2 2 a = ((clnR (bldS s2 t a) (a + 1) a : Nat) : Int)) := by
  have hr : ∀ c k, (sg.1 33 c).testBit k = true → k < c := hI.1.2.1
  have hr1 : ∀ c k, c ≤ a → ((snapS sg).1 33 c).testBit k = true → k < c := fun c k _ h => hr c k h
  obtain ⟨b1, b2, b3⟩ := att_c (t := t) (a := a) (snap_c e1) hr1
  obtain ⟨d1, d2, d3⟩ := att_c (t := t) (a := a) (snap_c e2) hr1
  have hb0 : attB (snapS sg) t a = true := d1.symm.trans hb
  have hb1 : attB (snapS s1) t a = true := b1.trans hb0
  have eB : bldS s2 t a = pR 49 (sU ((attS (snapS s2) t a).1 49) t ((attS (snapS s2) t a).1 49 t + 1)) (attS (snapS s2) t a) := if_pos hb
  have eZ : ahdZ sg t a = ((sumN ((attS (snapS sg) t a).1 25) ((attS (snapS sg) t a).1 0 3) : Nat) : Int) - ((sumN (sg.1 25) (sg.1 0 3) : Nat) : Int) := if_pos hb0
  have hF0 : frm (snapS sg) (attS (snapS sg) t a) := fr_att (snapS sg) t (attD (snapS sg) a) (a + 1)
  have e3 : (attS (snapS sg) t a).1 0 3 = sg.1 0 3 := fr_s3 (sg := snapS sg) hF0
  have hmono : sumN (sg.1 25) (sg.1 0 3) ≤ sumN ((attS (snapS sg) t a).1 25) (sg.1 0 3) := sum_mono (fun k => att_up (snapS sg) t (attD (snapS sg) a) k (a + 1)) _
  have eS : sumN ((bldS s2 t a).1 25) ((bldS s2 t a).1 0 3) = sumN ((attS (snapS sg) t a).1 25) ((attS (snapS sg) t a).1 0 3) := by
    rw [eB]
    show sumN ((attS (snapS s2) t a).1 25) ((attS (snapS s2) t a).1 0 3) = _
    rw [eE_f25 d2, eE_s3 d2]
  refine ⟨?_, ?_, ?_⟩
  · rw [eZ, e3]; omega
  · rw [eS, eZ]; omega
  · have g2 : (bldS s2 t a).2 2 a = (attS (snapS sg) t a).2 2 a := by rw [eB]; exact d3 hb0
    have g1 : (attS (snapS s1) t a).2 2 a = (attS (snapS sg) t a).2 2 a := b3 hb0
    have c0 : clnR (attS (snapS sg) t a) (a + 1) a = clnR sg (a + 1) a := clnR_c hr (fr_f30 (sg := snapS sg) hF0) (fr_f31 (sg := snapS sg) hF0) (fr_f32 (sg := snapS sg) hF0) (fr_f33 (sg := snapS sg) hF0) (fr_f34 (sg := snapS sg) hF0) a
    have hra : ∀ c k, ((attS (snapS sg) t a).1 33 c).testBit k = true → k < c := fun c k h => hr c k (by rw [show (attS (snapS sg) t a).1 33 = sg.1 33 from fr_f33 (sg := snapS sg) hF0] at h; exact h)
    have c1 : clnR (attS (snapS s1) t a) (a + 1) a = clnR (attS (snapS sg) t a) (a + 1) a := clnR_c hra (eE_f30 (sg := attS (snapS sg) t a) (su := attS (snapS s1) t a) b2) (eE_f31 (sg := attS (snapS sg) t a) (su := attS (snapS s1) t a) b2) (eE_f32 (sg := attS (snapS sg) t a) (su := attS (snapS s1) t a) b2) (eE_f33 (sg := attS (snapS sg) t a) (su := attS (snapS s1) t a) b2) (eE_f34 (sg := attS (snapS sg) t a) (su := attS (snapS s1) t a) b2) a
    have c2 : clnR (bldS s2 t a) (a + 1) a = clnR (attS (snapS sg) t a) (a + 1) a := by
      rw [eB]
      exact clnR_c (su := pR 49 (sU ((attS (snapS s2) t a).1 49) t ((attS (snapS s2) t a).1 49 t + 1)) (attS (snapS s2) t a)) hra (eE_f30 (sg := attS (snapS sg) t a) (su := attS (snapS s2) t a) d2) (eE_f31 (sg := attS (snapS sg) t a) (su := attS (snapS s2) t a) d2) (eE_f32 (sg := attS (snapS sg) t a) (su := attS (snapS s2) t a) d2) (eE_f33 (sg := attS (snapS sg) t a) (su := attS (snapS s2) t a) d2) (eE_f34 (sg := attS (snapS sg) t a) (su := attS (snapS s2) t a) d2) a
    unfold dfrP
    rw [g1, g2, c1, c2]
    exact ⟨fun z => z.2, fun z => ⟨hb1, z⟩⟩
