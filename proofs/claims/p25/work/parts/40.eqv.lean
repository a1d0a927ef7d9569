/-! pure: two states that tell the same -/
def eqE (sg su : sT) : Prop := (su.1 0 0 = sg.1 0 0) ∧ (su.1 0 1 = sg.1 0 1) ∧ (su.1 0 2 = sg.1 0 2) ∧ (su.1 0 3 = sg.1 0 3) ∧ (su.1 0 4 = sg.1 0 4) ∧ (su.1 0 5 = sg.1 0 5) ∧ (su.1 14 = sg.1 14) ∧ (su.1 15 = sg.1 15) ∧ (su.1 23 = sg.1 23) ∧ (su.1 24 = sg.1 24) ∧ (su.1 25 = sg.1 25) ∧ (su.1 26 = sg.1 26) ∧ (su.1 27 = sg.1 27) ∧ (su.1 30 = sg.1 30) ∧ (su.1 31 = sg.1 31) ∧ (su.1 32 = sg.1 32) ∧ (su.1 33 = sg.1 33) ∧ (su.1 34 = sg.1 34) ∧ (su.1 35 = sg.1 35) ∧ (su.1 36 = sg.1 36) ∧ (su.1 37 = sg.1 37) ∧ (su.1 47 = sg.1 47) ∧ (su.1 48 = sg.1 48) ∧ (su.1 49 = sg.1 49) ∧ (∀ k, k < sg.1 0 0 → su.1 10 k = sg.1 10 k) ∧ (∀ k, k < sg.1 0 0 → su.1 11 k = sg.1 11 k) ∧ (∀ k, k < sg.1 0 0 → su.1 12 k = sg.1 12 k) ∧ (∀ k, k < sg.1 0 0 → su.1 13 k = sg.1 13 k) ∧ (∀ k, k < sg.1 0 0 → su.1 16 k = sg.1 16 k) ∧ (∀ k, k < sg.1 0 0 → su.1 17 k = sg.1 17 k) ∧ (∀ k, k < sg.1 0 0 → su.1 22 k = sg.1 22 k) ∧ (∀ k, k < sg.1 0 0 * 8 → su.1 18 k = sg.1 18 k) ∧ (∀ k, k < sg.1 0 0 * 6 → su.1 19 k = sg.1 19 k) ∧ (∀ k, k < sg.1 0 0 * 14 → su.2 0 k = sg.2 0 k) ∧ (∀ k, k < sg.1 0 0 * 14 → su.2 1 k = sg.2 1 k)
theorem eE_s0 {sg su : sT} (h : eqE sg su) : su.1 0 0 = sg.1 0 0 := h.1
theorem eE_s1 {sg su : sT} (h : eqE sg su) : su.1 0 1 = sg.1 0 1 := h.2.1
theorem eE_s2 {sg su : sT} (h : eqE sg su) : su.1 0 2 = sg.1 0 2 := h.2.2.1
theorem eE_s3 {sg su : sT} (h : eqE sg su) : su.1 0 3 = sg.1 0 3 := h.2.2.2.1
theorem eE_s4 {sg su : sT} (h : eqE sg su) : su.1 0 4 = sg.1 0 4 := h.2.2.2.2.1
theorem eE_s5 {sg su : sT} (h : eqE sg su) : su.1 0 5 = sg.1 0 5 := h.2.2.2.2.2.1
theorem eE_f14 {sg su : sT} (h : eqE sg su) : su.1 14 = sg.1 14 := h.2.2.2.2.2.2.1
theorem eE_f15 {sg su : sT} (h : eqE sg su) : su.1 15 = sg.1 15 := h.2.2.2.2.2.2.2.1
theorem eE_f23 {sg su : sT} (h : eqE sg su) : su.1 23 = sg.1 23 := h.2.2.2.2.2.2.2.2.1
theorem eE_f24 {sg su : sT} (h : eqE sg su) : su.1 24 = sg.1 24 := h.2.2.2.2.2.2.2.2.2.1
theorem eE_f25 {sg su : sT} (h : eqE sg su) : su.1 25 = sg.1 25 := h.2.2.2.2.2.2.2.2.2.2.1
theorem eE_f26 {sg su : sT} (h : eqE sg su) : su.1 26 = sg.1 26 := h.2.2.2.2.2.2.2.2.2.2.2.1
theorem eE_f27 {sg su : sT} (h : eqE sg su) : su.1 27 = sg.1 27 := h.2.2.2.2.2.2.2.2.2.2.2.2.1
theorem eE_f30 {sg su : sT} (h : eqE sg su) : su.1 30 = sg.1 30 := h.2.2.2.2.2.2.2.2.2.2.2.2.2.1
theorem eE_f31 {sg su : sT} (h : eqE sg su) : su.1 31 = sg.1 31 := h.2.2.2.2.2.2.2.2.2.2.2.2.2.2.1
theorem eE_f32 {sg su : sT} (h : eqE sg su) : su.1 32 = sg.1 32 := h.2.2.2.2.2.2.2.2.2.2.2.2.2.2.2.1
theorem eE_f33 {sg su : sT} (h : eqE sg su) : su.1 33 = sg.1 33 := h.2.2.2.2.2.2.2.2.2.2.2.2.2.2.2.2.1
theorem eE_f34 {sg su : sT} (h : eqE sg su) : su.1 34 = sg.1 34 := h.2.2.2.2.2.2.2.2.2.2.2.2.2.2.2.2.2.1
theorem eE_f35 {sg su : sT} (h : eqE sg su) : su.1 35 = sg.1 35 := h.2.2.2.2.2.2.2.2.2.2.2.2.2.2.2.2.2.2.1
theorem eE_f36 {sg su : sT} (h : eqE sg su) : su.1 36 = sg.1 36 := h.2.2.2.2.2.2.2.2.2.2.2.2.2.2.2.2.2.2.2.1
theorem eE_f37 {sg su : sT} (h : eqE sg su) : su.1 37 = sg.1 37 := h.2.2.2.2.2.2.2.2.2.2.2.2.2.2.2.2.2.2.2.2.1
theorem eE_f47 {sg su : sT} (h : eqE sg su) : su.1 47 = sg.1 47 := h.2.2.2.2.2.2.2.2.2.2.2.2.2.2.2.2.2.2.2.2.2.1
theorem eE_f48 {sg su : sT} (h : eqE sg su) : su.1 48 = sg.1 48 := h.2.2.2.2.2.2.2.2.2.2.2.2.2.2.2.2.2.2.2.2.2.2.1
theorem eE_f49 {sg su : sT} (h : eqE sg su) : su.1 49 = sg.1 49 := h.2.2.2.2.2.2.2.2.2.2.2.2.2.2.2.2.2.2.2.2.2.2.2.1
theorem eE_b1_10 {sg su : sT} (h : eqE sg su) : ∀ k, k < sg.1 0 0 → su.1 10 k = sg.1 10 k := h.2.2.2.2.2.2.2.2.2.2.2.2.2.2.2.2.2.2.2.2.2.2.2.2.1
theorem eE_b1_11 {sg su : sT} (h : eqE sg su) : ∀ k, k < sg.1 0 0 → su.1 11 k = sg.1 11 k := h.2.2.2.2.2.2.2.2.2.2.2.2.2.2.2.2.2.2.2.2.2.2.2.2.2.1
theorem eE_b1_12 {sg su : sT} (h : eqE sg su) : ∀ k, k < sg.1 0 0 → su.1 12 k = sg.1 12 k := h.2.2.2.2.2.2.2.2.2.2.2.2.2.2.2.2.2.2.2.2.2.2.2.2.2.2.1
theorem eE_b1_13 {sg su : sT} (h : eqE sg su) : ∀ k, k < sg.1 0 0 → su.1 13 k = sg.1 13 k := h.2.2.2.2.2.2.2.2.2.2.2.2.2.2.2.2.2.2.2.2.2.2.2.2.2.2.2.1
theorem eE_b1_16 {sg su : sT} (h : eqE sg su) : ∀ k, k < sg.1 0 0 → su.1 16 k = sg.1 16 k := h.2.2.2.2.2.2.2.2.2.2.2.2.2.2.2.2.2.2.2.2.2.2.2.2.2.2.2.2.1
theorem eE_b1_17 {sg su : sT} (h : eqE sg su) : ∀ k, k < sg.1 0 0 → su.1 17 k = sg.1 17 k := h.2.2.2.2.2.2.2.2.2.2.2.2.2.2.2.2.2.2.2.2.2.2.2.2.2.2.2.2.2.1
theorem eE_b1_22 {sg su : sT} (h : eqE sg su) : ∀ k, k < sg.1 0 0 → su.1 22 k = sg.1 22 k := h.2.2.2.2.2.2.2.2.2.2.2.2.2.2.2.2.2.2.2.2.2.2.2.2.2.2.2.2.2.2.1
theorem eE_b1_18 {sg su : sT} (h : eqE sg su) : ∀ k, k < sg.1 0 0 * 8 → su.1 18 k = sg.1 18 k := h.2.2.2.2.2.2.2.2.2.2.2.2.2.2.2.2.2.2.2.2.2.2.2.2.2.2.2.2.2.2.2.1
theorem eE_b1_19 {sg su : sT} (h : eqE sg su) : ∀ k, k < sg.1 0 0 * 6 → su.1 19 k = sg.1 19 k := h.2.2.2.2.2.2.2.2.2.2.2.2.2.2.2.2.2.2.2.2.2.2.2.2.2.2.2.2.2.2.2.2.1
theorem eE_b2_0 {sg su : sT} (h : eqE sg su) : ∀ k, k < sg.1 0 0 * 14 → su.2 0 k = sg.2 0 k := h.2.2.2.2.2.2.2.2.2.2.2.2.2.2.2.2.2.2.2.2.2.2.2.2.2.2.2.2.2.2.2.2.2.1
theorem eE_b2_1 {sg su : sT} (h : eqE sg su) : ∀ k, k < sg.1 0 0 * 14 → su.2 1 k = sg.2 1 k := h.2.2.2.2.2.2.2.2.2.2.2.2.2.2.2.2.2.2.2.2.2.2.2.2.2.2.2.2.2.2.2.2.2.2
theorem eE_refl (sg : sT) : eqE sg sg := ⟨rfl, rfl, rfl, rfl, rfl, rfl, rfl, rfl, rfl, rfl, rfl, rfl, rfl, rfl, rfl, rfl, rfl, rfl, rfl, rfl, rfl, rfl, rfl, rfl, (fun _ _ => rfl), (fun _ _ => rfl), (fun _ _ => rfl), (fun _ _ => rfl), (fun _ _ => rfl), (fun _ _ => rfl), (fun _ _ => rfl), (fun _ _ => rfl), (fun _ _ => rfl), (fun _ _ => rfl), (fun _ _ => rfl)⟩
theorem eE_symm {sg su : sT} (h : eqE sg su) : eqE su sg := ⟨(eE_s0 h).symm, (eE_s1 h).symm, (eE_s2 h).symm, (eE_s3 h).symm, (eE_s4 h).symm, (eE_s5 h).symm, (eE_f14 h).symm, (eE_f15 h).symm, (eE_f23 h).symm, (eE_f24 h).symm, (eE_f25 h).symm, (eE_f26 h).symm, (eE_f27 h).symm, (eE_f30 h).symm, (eE_f31 h).symm, (eE_f32 h).symm, (eE_f33 h).symm, (eE_f34 h).symm, (eE_f35 h).symm, (eE_f36 h).symm, (eE_f37 h).symm, (eE_f47 h).symm, (eE_f48 h).symm, (eE_f49 h).symm, (fun k hk => (eE_b1_10 h k (by have h9 := eE_s0 h; omega)).symm), (fun k hk => (eE_b1_11 h k (by have h9 := eE_s0 h; omega)).symm), (fun k hk => (eE_b1_12 h k (by have h9 := eE_s0 h; omega)).symm), (fun k hk => (eE_b1_13 h k (by have h9 := eE_s0 h; omega)).symm), (fun k hk => (eE_b1_16 h k (by have h9 := eE_s0 h; omega)).symm), (fun k hk => (eE_b1_17 h k (by have h9 := eE_s0 h; omega)).symm), (fun k hk => (eE_b1_22 h k (by have h9 := eE_s0 h; omega)).symm), (fun k hk => (eE_b1_18 h k (by have h9 := eE_s0 h; omega)).symm), (fun k hk => (eE_b1_19 h k (by have h9 := eE_s0 h; omega)).symm), (fun k hk => (eE_b2_0 h k (by have h9 := eE_s0 h; omega)).symm), (fun k hk => (eE_b2_1 h k (by have h9 := eE_s0 h; omega)).symm)⟩
theorem eE_trans {sg su sv : sT} (h : eqE sg su) (h2 : eqE su sv) : eqE sg sv := ⟨((eE_s0 h2).trans (eE_s0 h)), ((eE_s1 h2).trans (eE_s1 h)), ((eE_s2 h2).trans (eE_s2 h)), ((eE_s3 h2).trans (eE_s3 h)), ((eE_s4 h2).trans (eE_s4 h)), ((eE_s5 h2).trans (eE_s5 h)), ((eE_f14 h2).trans (eE_f14 h)), ((eE_f15 h2).trans (eE_f15 h)), ((eE_f23 h2).trans (eE_f23 h)), ((eE_f24 h2).trans (eE_f24 h)), ((eE_f25 h2).trans (eE_f25 h)), ((eE_f26 h2).trans (eE_f26 h)), ((eE_f27 h2).trans (eE_f27 h)), ((eE_f30 h2).trans (eE_f30 h)), ((eE_f31 h2).trans (eE_f31 h)), ((eE_f32 h2).trans (eE_f32 h)), ((eE_f33 h2).trans (eE_f33 h)), ((eE_f34 h2).trans (eE_f34 h)), ((eE_f35 h2).trans (eE_f35 h)), ((eE_f36 h2).trans (eE_f36 h)), ((eE_f37 h2).trans (eE_f37 h)), ((eE_f47 h2).trans (eE_f47 h)), ((eE_f48 h2).trans (eE_f48 h)), ((eE_f49 h2).trans (eE_f49 h)), (fun k hk => (eE_b1_10 h2 k (by have h9 := eE_s0 h; omega)).trans (eE_b1_10 h k hk)), (fun k hk => (eE_b1_11 h2 k (by have h9 := eE_s0 h; omega)).trans (eE_b1_11 h k hk)), (fun k hk => (eE_b1_12 h2 k (by have h9 := eE_s0 h; omega)).trans (eE_b1_12 h k hk)), (fun k hk => (eE_b1_13 h2 k (by have h9 := eE_s0 h; omega)).trans (eE_b1_13 h k hk)), (fun k hk => (eE_b1_16 h2 k (by have h9 := eE_s0 h; omega)).trans (eE_b1_16 h k hk)), (fun k hk => (eE_b1_17 h2 k (by have h9 := eE_s0 h; omega)).trans (eE_b1_17 h k hk)), (fun k hk => (eE_b1_22 h2 k (by have h9 := eE_s0 h; omega)).trans (eE_b1_22 h k hk)), (fun k hk => (eE_b1_18 h2 k (by have h9 := eE_s0 h; omega)).trans (eE_b1_18 h k hk)), (fun k hk => (eE_b1_19 h2 k (by have h9 := eE_s0 h; omega)).trans (eE_b1_19 h k hk)), (fun k hk => (eE_b2_0 h2 k (by have h9 := eE_s0 h; omega)).trans (eE_b2_0 h k hk)), (fun k hk => (eE_b2_1 h2 k (by have h9 := eE_s0 h; omega)).trans (eE_b2_1 h k hk))⟩
theorem sU_cb {f f' : Nat → Nat} {n n' v v' : Nat} (hn : n' = n) (hv : v' = v) (h : ∀ k, k < n → f' k = f k) : ∀ k, k < n + 1 → sU f' n' v' k = sU f n v k := by
  intro k hk
  subst hn; subst hv
  by_cases e : k = n'
  · subst e; rw [sU_s, sU_s]
  · rw [sU_n _ _ e, sU_n _ _ e]; exact h k (by omega)
theorem cpy_cb {f f' g g' : Nat → Nat} {n n' m : Nat} (hn : n' = n) (hf : f' = f) (hg : ∀ k, k < n * m → g' k = g k) : ∀ k, k < (n + 1) * m → cpyN f' g' (n' * m) m k = cpyN f g (n * m) m k := by
  intro k hk
  subst hn; subst hf
  unfold cpyN
  by_cases e : n' * m ≤ k ∧ k < n' * m + m
  · rw [if_pos e, if_pos e]
  · rw [if_neg e, if_neg e]
    refine hg k ?_
    rw [Nat.add_mul, Nat.one_mul] at hk
    omega
theorem ps_cb {S S' n n' : Nat} {g g' f f' : Nat → Int} (hS : S' = S) (hn : n' = n) (hg : ∀ b, S.testBit b = true → g' b = g b) (hf : ∀ k, k < n * 14 → f' k = f k) : ∀ k, k < (n + 1) * 14 → psN S' g' f' (n' * 14) 14 k = psN S g f (n * 14) 14 k := by
  intro k hk
  subst hn; subst hS
  unfold psN
  by_cases e : n' * 14 ≤ k ∧ k < n' * 14 + 14
  · rw [if_pos e, if_pos e]
    by_cases q : S'.testBit (k - n' * 14) = true
    · rw [if_pos q, if_pos q]; exact hg _ q
    · rw [if_neg q, if_neg q]
  · rw [if_neg e, if_neg e]
    exact hf k (by omega)
theorem fsv_c {S S' : Nat} {g g' : Nat → Int} (hS : S' = S) (hg : ∀ b, S.testBit b = true → g' b = g b) : ∀ n, fsvN S' g' n = fsvN S g n
  | 0 => rfl
  | n + 1 => by
    subst hS
    rw [fsvN_s, fsvN_s, fsv_c rfl hg n]
    by_cases q : S'.testBit n = true
    · rw [if_pos q, if_pos q, hg n q]
    · rw [if_neg q, if_neg q]
theorem weigh_c {S w : Nat} {f f' : Nat → Int} (h : ∀ k, S.testBit k = true → f' k = f k) : ∀ n, weighN S f' w n = weighN S f w n
  | 0 => rfl
  | n + 1 => by
    rw [weighN_s, weighN_s, weigh_c h n]
    by_cases q : S.testBit n = true
    · rw [if_pos q, if_pos q, h n q]
    · rw [if_neg q, if_neg q]
theorem used_c {tm tm' st sz sz' : Nat → Nat} {o : Nat} : ∀ {n : Nat}, (∀ k, k < n → tm' k = tm k) → (∀ k, k < n → sz' k = sz k) → usedN tm' st sz' o n = usedN tm st sz o n
  | 0, _, _ => rfl
  | n + 1, h1, h2 => by rw [usedN_s, usedN_s, used_c (fun k hk => h1 k (by omega)) (fun k hk => h2 k (by omega)), h1 n (by omega), h2 n (by omega)]
theorem kept_c {tm tm' st : Nat → Nat} {o : Nat} : ∀ {n : Nat}, (∀ k, k < n → tm' k = tm k) → keptN tm' st o n = keptN tm st o n
  | 0, _ => rfl
  | n + 1, h1 => by rw [keptN_s, keptN_s, kept_c (fun k hk => h1 k (by omega)), h1 n (by omega)]
theorem kta_c {st ac ac' : Nat → Nat} {S : Nat} : ∀ {n : Nat}, (∀ k, k < n → ac' k = ac k) → ktaN st ac' S n = ktaN st ac S n
  | 0, _ => rfl
  | n + 1, h1 => by rw [ktaN_s, ktaN_s, kta_c (fun k hk => h1 k (by omega)), h1 n (by omega)]
theorem poi_c {st wo wo' : Nat → Nat} {w : Nat} : ∀ {n : Nat}, (∀ k, k < n → wo' k = wo k) → poiN st wo' w n = poiN st wo w n
  | 0, _ => rfl
  | n + 1, h1 => by rw [poiN_s, poiN_s, poi_c (fun k hk => h1 k (by omega)), h1 n (by omega)]
theorem lea_c {tm tm' st sz sz' co co' hi : Nat → Nat} {o N : Nat} (h1 : ∀ k, k < N → tm' k = tm k) (h2 : ∀ k, k < N → sz' k = sz k) (h3 : ∀ k, k < N → co' k = co k) : ∀ n, n ≤ N → leaN tm' st sz' co' hi o n = leaN tm st sz co hi o n
  | 0, _ => rfl
  | n + 1, hn => by
    have ih := lea_c (st := st) (hi := hi) (o := o) h1 h2 h3 n (by omega)
    have hl := leaN_le tm st sz co hi o n
    rw [leaN_s, leaN_s, ih, h1 n (by omega), h2 n (by omega), h3 n (by omega), h2 (leaN tm st sz co hi o n - 1) (by omega), h3 (leaN tm st sz co hi o n - 1) (by omega)]
theorem roomS_c {tm tm' st sz sz' co co' hi : Nat → Nat} {o N : Nat} (h1 : ∀ k, k < N → tm' k = tm k) (h2 : ∀ k, k < N → sz' k = sz k) (h3 : ∀ k, k < N → co' k = co k) : ∀ i, roomS tm' st sz' co' hi o N i = roomS tm st sz co hi o N i
  | 0 => rfl
  | i + 1 => by
    have ih := roomS_c (st := st) (hi := hi) (o := o) h1 h2 h3 i
    show sU (roomS tm' st sz' co' hi o N i) (leaN tm' (roomS tm' st sz' co' hi o N i) sz' co' hi o N - 1) 1 = sU (roomS tm st sz co hi o N i) (leaN tm (roomS tm st sz co hi o N i) sz co hi o N - 1) 1
    rw [ih, lea_c h1 h2 h3 N (Nat.le_refl N)]
theorem roomG_c {tm tm' st sz sz' co co' hi : Nat → Nat} {o N : Nat} {rm : Int} (h1 : ∀ k, k < N → tm' k = tm k) (h2 : ∀ k, k < N → sz' k = sz k) (h3 : ∀ k, k < N → co' k = co k) (i : Nat) : roomG tm' st sz' co' hi o N rm i ↔ roomG tm st sz co hi o N rm i := by
  unfold roomG
  rw [roomS_c h1 h2 h3 i, lea_c h1 h2 h3 N (Nat.le_refl N), used_c h1 h2]
theorem roomK_c {tm tm' st sz sz' co co' hi : Nat → Nat} {o N : Nat} {rm : Int} (h1 : ∀ k, k < N → tm' k = tm k) (h2 : ∀ k, k < N → sz' k = sz k) (h3 : ∀ k, k < N → co' k = co k) : ∀ i, roomK tm' st sz' co' hi o N rm i = roomK tm st sz co hi o N rm i
  | 0 => rfl
  | i + 1 => by
    have ih := roomK_c (st := st) (hi := hi) (o := o) (rm := rm) h1 h2 h3 i
    have hG := roomG_c (st := st) (hi := hi) (o := o) (rm := rm) h1 h2 h3 i
    rw [roomK_s, roomK_s, ih]
    by_cases q : roomK tm st sz co hi o N rm i = i ∧ roomG tm st sz co hi o N rm i
    · rw [if_pos q, if_pos ⟨q.1, hG.mpr q.2⟩]
    · rw [if_neg q, if_neg (fun z => q ⟨z.1, hG.mp z.2⟩)]
theorem fst_c {p p' : Nat → Prop} [DecidablePred p] [DecidablePred p'] : ∀ {n : Nat}, (∀ e, e < n → (p' e ↔ p e)) → fstN p' n = fstN p n
  | 0, _ => rfl
  | n + 1, h => by
    have ih := fst_c (fun e he => h e (by omega : e < n + 1)) (n := n)
    rw [fstN_s, fstN_s, ih]
    by_cases q : fstN p n = 0 ∧ p n
    · rw [if_pos q, if_pos ⟨q.1, (h n (by omega)).mpr q.2⟩]
    · rw [if_neg q, if_neg (fun z => q ⟨z.1, (h n (by omega)).mp z.2⟩)]
theorem chg_c {va va' pv : Nat → Nat} {e : Nat} : ∀ {n : Nat}, (∀ s, s < n → va' (e * 6 + s) = va (e * 6 + s)) → chgN va' pv e n = chgN va pv e n
  | 0, _ => rfl
  | n + 1, h => by rw [chgN_s, chgN_s, chg_c (fun s hs => h s (by omega)), h n (by omega)]
theorem fam_c {fs fs' : Nat → Nat} {e N : Nat} (h : ∀ k, k < N → fs' k = fs k) : ∀ n, e + 1 + n ≤ N → famN fs' e n = famN fs e n
  | 0, _ => rfl
  | n + 1, hn => by rw [famN_s, famN_s, fam_c h n (by omega), h (e + 1 + n) (by omega)]
theorem off_c {fs fs' : Nat → Nat} {e N : Nat} (h : ∀ k, k < N → fs' k = fs k) (he : e < N) : offN fs' e N = offN fs e N := by
  unfold offN
  rw [fam_c h (N - (e + 1)) (by omega)]
theorem allB_c {p p' : Nat → Bool} : ∀ {n : Nat}, (∀ k, k < n → p' k = p k) → allB p' n = allB p n
  | 0, _ => rfl
  | n + 1, h => by
    show (allB p' n && p' n) = (allB p n && p n)
    rw [allB_c (fun k hk => h k (by omega)), h n (by omega)]
theorem choS_c {sg su : sT} (h : eqE sg su) (ex : Int) : choS su ex = choS sg ex := by
  unfold choS
  rw [eE_f24 h, eE_f26 h, eE_s3 h]
theorem prn_c {zFi zCt zAc zSe zVa : Nat → Nat} {f f' : Nat → Int} {a : Nat} (hg : ∀ b, (zAc a).testBit b = true → f' b = f b) : prnN zFi zCt zAc zSe zVa f' a = prnN zFi zCt zAc zSe zVa f a := by
  unfold prnN prnZ
  rw [weigh_c hg 14]
theorem prnS_c {sg su : sT} {a : Nat} (h : eqE sg su) (hg : ∀ b, (sg.1 33 a).testBit b = true → su.2 2 b = sg.2 2 b) : prnS su a = prnS sg a := by
  unfold prnS
  rw [eE_f30 h, eE_f31 h, eE_f32 h, eE_f33 h, eE_f34 h]
  exact prn_c hg
theorem runP_c {sg su : sT} {w a : Nat} (h : eqE sg su) (hg : ∀ b, (sg.1 33 a).testBit b = true → su.2 2 b = sg.2 2 b) : runP su w a = runP sg w a := by
  unfold runP
  rw [eE_f23 h, eE_f25 h, prnS_c h hg]
theorem runS_c {sg su : sT} {w a : Nat} (h : eqE sg su) : eqE (runS sg w a) (runS su w a) := ⟨(eE_s0 (sg := sg) (su := su) h), (eE_s1 (sg := sg) (su := su) h), (eE_s2 (sg := sg) (su := su) h), (eE_s3 (sg := sg) (su := su) h), (eE_s4 (sg := sg) (su := su) h), (eE_s5 (sg := sg) (su := su) h), (eE_f14 (sg := sg) (su := su) h), (eE_f15 (sg := sg) (su := su) h), (eE_f23 (sg := sg) (su := su) h), (eE_f24 (sg := sg) (su := su) h), (by show sU (su.1 25) w (su.1 25 w + 1) = sU (sg.1 25) w (sg.1 25 w + 1); rw [eE_f25 (sg := sg) (su := su) h]), (by show sU (su.1 26) w (su.1 26 w + su.1 36 a) = sU (sg.1 26) w (sg.1 26 w + sg.1 36 a); rw [eE_f26 (sg := sg) (su := su) h, eE_f36 (sg := sg) (su := su) h]), (eE_f27 (sg := sg) (su := su) h), (eE_f30 (sg := sg) (su := su) h), (eE_f31 (sg := sg) (su := su) h), (eE_f32 (sg := sg) (su := su) h), (eE_f33 (sg := sg) (su := su) h), (eE_f34 (sg := sg) (su := su) h), (eE_f35 (sg := sg) (su := su) h), (eE_f36 (sg := sg) (su := su) h), (eE_f37 (sg := sg) (su := su) h), (eE_f47 (sg := sg) (su := su) h), (eE_f48 (sg := sg) (su := su) h), (eE_f49 (sg := sg) (su := su) h), (eE_b1_10 (sg := sg) (su := su) h), (eE_b1_11 (sg := sg) (su := su) h), (eE_b1_12 (sg := sg) (su := su) h), (eE_b1_13 (sg := sg) (su := su) h), (eE_b1_16 (sg := sg) (su := su) h), (eE_b1_17 (sg := sg) (su := su) h), (eE_b1_22 (sg := sg) (su := su) h), (eE_b1_18 (sg := sg) (su := su) h), (eE_b1_19 (sg := sg) (su := su) h), (eE_b2_0 (sg := sg) (su := su) h), (eE_b2_1 (sg := sg) (su := su) h)⟩
theorem hitS_c {sg su : sT} {t e a : Nat} (h : eqE sg su) : eqE (hitS sg t e a) (hitS su t e a) := ⟨(eE_s0 (sg := sg) (su := su) h), (eE_s1 (sg := sg) (su := su) h), (eE_s2 (sg := sg) (su := su) h), (eE_s3 (sg := sg) (su := su) h), (eE_s4 (sg := sg) (su := su) h), (eE_s5 (sg := sg) (su := su) h), (by show sU (su.1 14) e (su.1 14 e + 1) = sU (sg.1 14) e (sg.1 14 e + 1); rw [eE_f14 (sg := sg) (su := su) h]), (eE_f15 (sg := sg) (su := su) h), (eE_f23 (sg := sg) (su := su) h), (eE_f24 (sg := sg) (su := su) h), (eE_f25 (sg := sg) (su := su) h), (eE_f26 (sg := sg) (su := su) h), (eE_f27 (sg := sg) (su := su) h), (eE_f30 (sg := sg) (su := su) h), (eE_f31 (sg := sg) (su := su) h), (eE_f32 (sg := sg) (su := su) h), (eE_f33 (sg := sg) (su := su) h), (eE_f34 (sg := sg) (su := su) h), (eE_f35 (sg := sg) (su := su) h), (eE_f36 (sg := sg) (su := su) h), (eE_f37 (sg := sg) (su := su) h), (eE_f47 (sg := sg) (su := su) h), (by show sU (su.1 48) t (su.1 48 t + su.1 36 a) = sU (sg.1 48) t (sg.1 48 t + sg.1 36 a); rw [eE_f48 (sg := sg) (su := su) h, eE_f36 (sg := sg) (su := su) h]), (eE_f49 (sg := sg) (su := su) h), (eE_b1_10 (sg := sg) (su := su) h), (eE_b1_11 (sg := sg) (su := su) h), (eE_b1_12 (sg := sg) (su := su) h), (eE_b1_13 (sg := sg) (su := su) h), (eE_b1_16 (sg := sg) (su := su) h), (eE_b1_17 (sg := sg) (su := su) h), (eE_b1_22 (sg := sg) (su := su) h), (eE_b1_18 (sg := sg) (su := su) h), (eE_b1_19 (sg := sg) (su := su) h), (eE_b2_0 (sg := sg) (su := su) h), (eE_b2_1 (sg := sg) (su := su) h)⟩
theorem gotS_c {sg su : sT} {a p e a' p' e' : Nat} (h : eqE sg su) : eqE (gotS sg a p e) (gotS su a' p' e') := ⟨(eE_s0 (sg := sg) (su := su) h), (eE_s1 (sg := sg) (su := su) h), (eE_s2 (sg := sg) (su := su) h), (eE_s3 (sg := sg) (su := su) h), (eE_s4 (sg := sg) (su := su) h), (eE_s5 (sg := sg) (su := su) h), (eE_f14 (sg := sg) (su := su) h), (eE_f15 (sg := sg) (su := su) h), (eE_f23 (sg := sg) (su := su) h), (eE_f24 (sg := sg) (su := su) h), (eE_f25 (sg := sg) (su := su) h), (eE_f26 (sg := sg) (su := su) h), (eE_f27 (sg := sg) (su := su) h), (eE_f30 (sg := sg) (su := su) h), (eE_f31 (sg := sg) (su := su) h), (eE_f32 (sg := sg) (su := su) h), (eE_f33 (sg := sg) (su := su) h), (eE_f34 (sg := sg) (su := su) h), (eE_f35 (sg := sg) (su := su) h), (eE_f36 (sg := sg) (su := su) h), (eE_f37 (sg := sg) (su := su) h), (eE_f47 (sg := sg) (su := su) h), (eE_f48 (sg := sg) (su := su) h), (eE_f49 (sg := sg) (su := su) h), (eE_b1_10 (sg := sg) (su := su) h), (eE_b1_11 (sg := sg) (su := su) h), (eE_b1_12 (sg := sg) (su := su) h), (eE_b1_13 (sg := sg) (su := su) h), (eE_b1_16 (sg := sg) (su := su) h), (eE_b1_17 (sg := sg) (su := su) h), (eE_b1_22 (sg := sg) (su := su) h), (eE_b1_18 (sg := sg) (su := su) h), (eE_b1_19 (sg := sg) (su := su) h), (eE_b2_0 (sg := sg) (su := su) h), (eE_b2_1 (sg := sg) (su := su) h)⟩
theorem cmpW_c {sg su : sT} {e : Nat} (h : eqE sg su) (he : e < sg.1 0 0) : cmpW su e = cmpW sg e := by
  unfold cmpW
  rw [choS_c h, eE_b1_11 h e he]
theorem chgS_c {sg su : sT} {e : Nat} (h : eqE sg su) (he : e < sg.1 0 0) : chgN (su.1 19) (su.1 31) e 6 = chgN (sg.1 19) (sg.1 31) e 6 := by
  rw [eE_f31 h]
  exact chg_c (fun s hs => eE_b1_19 h _ (by omega))
theorem cmpT_c {sg su : sT} {e a : Nat} (h : eqE sg su) (he : e < sg.1 0 0) : cmpT su e a = cmpT sg e a := by
  unfold cmpT
  rw [chgS_c h he, eE_f35 h]
theorem cmpF_c {sg su : sT} {e : Nat} (h : eqE sg su) (he : e < sg.1 0 0) : cmpF su e = cmpF sg e := by
  unfold cmpF
  rw [eE_s0 h, off_c (eE_b1_22 h) he]
theorem cmpO_c {sg su : sT} {e a : Nat} (h : eqE sg su) (he : e < sg.1 0 0) (hg : ∀ b, (sg.1 33 a).testBit b = true → su.2 2 b = sg.2 2 b) : cmpO su e a = cmpO sg e a := by
  unfold cmpO
  rw [eE_b1_11 h e he, choS_c h, cmpW_c h he, runP_c h hg, eE_b1_13 h e he]
theorem cmp1_c {sg su : sT} {a w : Nat} {z z' : Nat → Nat} (h : eqE sg su) (hz : z' 0 = z 0 ∧ z' 1 = z 1 ∧ z' 2 = z 2 ∧ z' 3 = z 3 ∧ z' 4 = z 4 ∧ z' 5 = z 5) (h0 : z 0 = sg.1 0 0) : eqE (cmp1 sg a w z) (cmp1 su a w z') := ⟨hz.1, hz.2.1, hz.2.2.1, hz.2.2.2.1, hz.2.2.2.2.1, hz.2.2.2.2.2, (eE_f14 (sg := sg) (su := su) h), (eE_f15 (sg := sg) (su := su) h), (eE_f23 (sg := sg) (su := su) h), (eE_f24 (sg := sg) (su := su) h), (by show sU (su.1 25) w (su.1 25 w + 1) = sU (sg.1 25) w (sg.1 25 w + 1); rw [eE_f25 (sg := sg) (su := su) h]), (by show sU (su.1 26) w (su.1 26 w + su.1 36 a) = sU (sg.1 26) w (sg.1 26 w + sg.1 36 a); rw [eE_f26 (sg := sg) (su := su) h, eE_f36 (sg := sg) (su := su) h]), (by show sU (su.1 27) w (su.1 27 w + 1) = sU (sg.1 27) w (sg.1 27 w + 1); rw [eE_f27 (sg := sg) (su := su) h]), (eE_f30 (sg := sg) (su := su) h), (eE_f31 (sg := sg) (su := su) h), (eE_f32 (sg := sg) (su := su) h), (eE_f33 (sg := sg) (su := su) h), (eE_f34 (sg := sg) (su := su) h), (eE_f35 (sg := sg) (su := su) h), (eE_f36 (sg := sg) (su := su) h), (eE_f37 (sg := sg) (su := su) h), (eE_f47 (sg := sg) (su := su) h), (eE_f48 (sg := sg) (su := su) h), (eE_f49 (sg := sg) (su := su) h), (fun k (hk : k < z 0) => eE_b1_10 (sg := sg) (su := su) h k (by rw [← h0]; exact hk)), (fun k (hk : k < z 0) => eE_b1_11 (sg := sg) (su := su) h k (by rw [← h0]; exact hk)), (fun k (hk : k < z 0) => eE_b1_12 (sg := sg) (su := su) h k (by rw [← h0]; exact hk)), (fun k (hk : k < z 0) => eE_b1_13 (sg := sg) (su := su) h k (by rw [← h0]; exact hk)), (fun k (hk : k < z 0) => eE_b1_16 (sg := sg) (su := su) h k (by rw [← h0]; exact hk)), (fun k (hk : k < z 0) => eE_b1_17 (sg := sg) (su := su) h k (by rw [← h0]; exact hk)), (fun k (hk : k < z 0) => eE_b1_22 (sg := sg) (su := su) h k (by rw [← h0]; exact hk)), (fun k (hk : k < z 0 * 8) => eE_b1_18 (sg := sg) (su := su) h k (by rw [← h0]; exact hk)), (fun k (hk : k < z 0 * 6) => eE_b1_19 (sg := sg) (su := su) h k (by rw [← h0]; exact hk)), (fun k (hk : k < z 0 * 14) => eE_b2_0 (sg := sg) (su := su) h k (by rw [← h0]; exact hk)), (fun k (hk : k < z 0 * 14) => eE_b2_1 (sg := sg) (su := su) h k (by rw [← h0]; exact hk))⟩
theorem pR_c {sg su : sT} (h : eqE sg su) {f : Nat → Nat} : eqE (pR 24 f sg) (pR 24 f su) := ⟨(eE_s0 (sg := sg) (su := su) h), (eE_s1 (sg := sg) (su := su) h), (eE_s2 (sg := sg) (su := su) h), (eE_s3 (sg := sg) (su := su) h), (eE_s4 (sg := sg) (su := su) h), (eE_s5 (sg := sg) (su := su) h), (eE_f14 (sg := sg) (su := su) h), (eE_f15 (sg := sg) (su := su) h), (eE_f23 (sg := sg) (su := su) h), rfl, (eE_f25 (sg := sg) (su := su) h), (eE_f26 (sg := sg) (su := su) h), (eE_f27 (sg := sg) (su := su) h), (eE_f30 (sg := sg) (su := su) h), (eE_f31 (sg := sg) (su := su) h), (eE_f32 (sg := sg) (su := su) h), (eE_f33 (sg := sg) (su := su) h), (eE_f34 (sg := sg) (su := su) h), (eE_f35 (sg := sg) (su := su) h), (eE_f36 (sg := sg) (su := su) h), (eE_f37 (sg := sg) (su := su) h), (eE_f47 (sg := sg) (su := su) h), (eE_f48 (sg := sg) (su := su) h), (eE_f49 (sg := sg) (su := su) h), (eE_b1_10 (sg := sg) (su := su) h), (eE_b1_11 (sg := sg) (su := su) h), (eE_b1_12 (sg := sg) (su := su) h), (eE_b1_13 (sg := sg) (su := su) h), (eE_b1_16 (sg := sg) (su := su) h), (eE_b1_17 (sg := sg) (su := su) h), (eE_b1_22 (sg := sg) (su := su) h), (eE_b1_18 (sg := sg) (su := su) h), (eE_b1_19 (sg := sg) (su := su) h), (eE_b2_0 (sg := sg) (su := su) h), (eE_b2_1 (sg := sg) (su := su) h)⟩
theorem pR15_c {sg su : sT} (h : eqE sg su) {f : Nat → Nat} : eqE (pR 15 f sg) (pR 15 f su) := ⟨(eE_s0 (sg := sg) (su := su) h), (eE_s1 (sg := sg) (su := su) h), (eE_s2 (sg := sg) (su := su) h), (eE_s3 (sg := sg) (su := su) h), (eE_s4 (sg := sg) (su := su) h), (eE_s5 (sg := sg) (su := su) h), (eE_f14 (sg := sg) (su := su) h), rfl, (eE_f23 (sg := sg) (su := su) h), (eE_f24 (sg := sg) (su := su) h), (eE_f25 (sg := sg) (su := su) h), (eE_f26 (sg := sg) (su := su) h), (eE_f27 (sg := sg) (su := su) h), (eE_f30 (sg := sg) (su := su) h), (eE_f31 (sg := sg) (su := su) h), (eE_f32 (sg := sg) (su := su) h), (eE_f33 (sg := sg) (su := su) h), (eE_f34 (sg := sg) (su := su) h), (eE_f35 (sg := sg) (su := su) h), (eE_f36 (sg := sg) (su := su) h), (eE_f37 (sg := sg) (su := su) h), (eE_f47 (sg := sg) (su := su) h), (eE_f48 (sg := sg) (su := su) h), (eE_f49 (sg := sg) (su := su) h), (eE_b1_10 (sg := sg) (su := su) h), (eE_b1_11 (sg := sg) (su := su) h), (eE_b1_12 (sg := sg) (su := su) h), (eE_b1_13 (sg := sg) (su := su) h), (eE_b1_16 (sg := sg) (su := su) h), (eE_b1_17 (sg := sg) (su := su) h), (eE_b1_22 (sg := sg) (su := su) h), (eE_b1_18 (sg := sg) (su := su) h), (eE_b1_19 (sg := sg) (su := su) h), (eE_b2_0 (sg := sg) (su := su) h), (eE_b2_1 (sg := sg) (su := su) h)⟩
theorem pR35_c {sg su : sT} (h : eqE sg su) {f : Nat → Nat} : eqE (pR 35 f sg) (pR 35 f su) := ⟨(eE_s0 (sg := sg) (su := su) h), (eE_s1 (sg := sg) (su := su) h), (eE_s2 (sg := sg) (su := su) h), (eE_s3 (sg := sg) (su := su) h), (eE_s4 (sg := sg) (su := su) h), (eE_s5 (sg := sg) (su := su) h), (eE_f14 (sg := sg) (su := su) h), (eE_f15 (sg := sg) (su := su) h), (eE_f23 (sg := sg) (su := su) h), (eE_f24 (sg := sg) (su := su) h), (eE_f25 (sg := sg) (su := su) h), (eE_f26 (sg := sg) (su := su) h), (eE_f27 (sg := sg) (su := su) h), (eE_f30 (sg := sg) (su := su) h), (eE_f31 (sg := sg) (su := su) h), (eE_f32 (sg := sg) (su := su) h), (eE_f33 (sg := sg) (su := su) h), (eE_f34 (sg := sg) (su := su) h), rfl, (eE_f36 (sg := sg) (su := su) h), (eE_f37 (sg := sg) (su := su) h), (eE_f47 (sg := sg) (su := su) h), (eE_f48 (sg := sg) (su := su) h), (eE_f49 (sg := sg) (su := su) h), (eE_b1_10 (sg := sg) (su := su) h), (eE_b1_11 (sg := sg) (su := su) h), (eE_b1_12 (sg := sg) (su := su) h), (eE_b1_13 (sg := sg) (su := su) h), (eE_b1_16 (sg := sg) (su := su) h), (eE_b1_17 (sg := sg) (su := su) h), (eE_b1_22 (sg := sg) (su := su) h), (eE_b1_18 (sg := sg) (su := su) h), (eE_b1_19 (sg := sg) (su := su) h), (eE_b2_0 (sg := sg) (su := su) h), (eE_b2_1 (sg := sg) (su := su) h)⟩
theorem pR47_c {sg su : sT} (h : eqE sg su) {f : Nat → Nat} : eqE (pR 47 f sg) (pR 47 f su) := ⟨(eE_s0 (sg := sg) (su := su) h), (eE_s1 (sg := sg) (su := su) h), (eE_s2 (sg := sg) (su := su) h), (eE_s3 (sg := sg) (su := su) h), (eE_s4 (sg := sg) (su := su) h), (eE_s5 (sg := sg) (su := su) h), (eE_f14 (sg := sg) (su := su) h), (eE_f15 (sg := sg) (su := su) h), (eE_f23 (sg := sg) (su := su) h), (eE_f24 (sg := sg) (su := su) h), (eE_f25 (sg := sg) (su := su) h), (eE_f26 (sg := sg) (su := su) h), (eE_f27 (sg := sg) (su := su) h), (eE_f30 (sg := sg) (su := su) h), (eE_f31 (sg := sg) (su := su) h), (eE_f32 (sg := sg) (su := su) h), (eE_f33 (sg := sg) (su := su) h), (eE_f34 (sg := sg) (su := su) h), (eE_f35 (sg := sg) (su := su) h), (eE_f36 (sg := sg) (su := su) h), (eE_f37 (sg := sg) (su := su) h), rfl, (eE_f48 (sg := sg) (su := su) h), (eE_f49 (sg := sg) (su := su) h), (eE_b1_10 (sg := sg) (su := su) h), (eE_b1_11 (sg := sg) (su := su) h), (eE_b1_12 (sg := sg) (su := su) h), (eE_b1_13 (sg := sg) (su := su) h), (eE_b1_16 (sg := sg) (su := su) h), (eE_b1_17 (sg := sg) (su := su) h), (eE_b1_22 (sg := sg) (su := su) h), (eE_b1_18 (sg := sg) (su := su) h), (eE_b1_19 (sg := sg) (su := su) h), (eE_b2_0 (sg := sg) (su := su) h), (eE_b2_1 (sg := sg) (su := su) h)⟩
theorem cmpS_c {sg su : sT} {e a : Nat} (h : eqE sg su) (he : e < sg.1 0 0) (hg : ∀ b, (sg.1 33 a).testBit b = true → su.2 2 b = sg.2 2 b) : eqE (cmpS sg e a) (cmpS su e a) := by
  unfold cmpS
  rw [eE_b1_11 h e he, choS_c h, cmpW_c h he, runP_c h hg, eE_b1_13 h e he, cmpT_c h he, cmpF_c h he, eE_f24 h, eE_f15 h, eE_f35 h, eE_s0 h, eE_s3 h, eE_s1 h]
  by_cases q : choS sg ((sg.1 11 e : Nat) : Int) = 0
  · rw [if_pos q, if_pos q]
    exact ⟨(eE_s0 (sg := sg) (su := su) h), (eE_s1 (sg := sg) (su := su) h), (eE_s2 (sg := sg) (su := su) h), (eE_s3 (sg := sg) (su := su) h), (eE_s4 (sg := sg) (su := su) h), (eE_s5 (sg := sg) (su := su) h), (eE_f14 (sg := sg) (su := su) h), (eE_f15 (sg := sg) (su := su) h), (eE_f23 (sg := sg) (su := su) h), (eE_f24 (sg := sg) (su := su) h), (eE_f25 (sg := sg) (su := su) h), (eE_f26 (sg := sg) (su := su) h), (eE_f27 (sg := sg) (su := su) h), (eE_f30 (sg := sg) (su := su) h), (eE_f31 (sg := sg) (su := su) h), (eE_f32 (sg := sg) (su := su) h), (eE_f33 (sg := sg) (su := su) h), (eE_f34 (sg := sg) (su := su) h), (eE_f35 (sg := sg) (su := su) h), (eE_f36 (sg := sg) (su := su) h), (eE_f37 (sg := sg) (su := su) h), (eE_f47 (sg := sg) (su := su) h), (eE_f48 (sg := sg) (su := su) h), (eE_f49 (sg := sg) (su := su) h), (eE_b1_10 (sg := sg) (su := su) h), (eE_b1_11 (sg := sg) (su := su) h), (eE_b1_12 (sg := sg) (su := su) h), (eE_b1_13 (sg := sg) (su := su) h), (eE_b1_16 (sg := sg) (su := su) h), (eE_b1_17 (sg := sg) (su := su) h), (eE_b1_22 (sg := sg) (su := su) h), (eE_b1_18 (sg := sg) (su := su) h), (eE_b1_19 (sg := sg) (su := su) h), (eE_b2_0 (sg := sg) (su := su) h), (eE_b2_1 (sg := sg) (su := su) h)⟩
  · rw [if_neg q, if_neg q]
    by_cases r : runP sg (cmpW sg e) a = sg.1 13 e
    · rw [if_pos r, if_pos r]
      exact pR_c (cmp1_c (z := sU (sg.1 0) 6 (runP sg (cmpW sg e) a)) (z' := sU (su.1 0) 6 (runP sg (cmpW sg e) a)) h ⟨eE_s0 h, eE_s1 h, eE_s2 h, eE_s3 h, eE_s4 h, eE_s5 h⟩ rfl)
    · rw [if_neg r, if_neg r]
      by_cases v : cmpT sg e a = 0
      · rw [if_pos v, if_pos v]
        exact pR15_c (pR_c (cmp1_c (z := sU (sU (sg.1 0) 6 (runP sg (cmpW sg e) a)) 1 (sg.1 0 1 + 1)) (z' := sU (sU (su.1 0) 6 (runP sg (cmpW sg e) a)) 1 (sg.1 0 1 + 1)) h ⟨eE_s0 h, rfl, eE_s2 h, eE_s3 h, eE_s4 h, eE_s5 h⟩ rfl))
      · rw [if_neg v, if_neg v]
        have ed : dropN (su.1 10) a (sg.1 15) (sg.1 0 0) = dropN (sg.1 10) a (sg.1 15) (sg.1 0 0) := by
          funext k
          unfold dropN
          by_cases hk : k < sg.1 0 0
          · rw [eE_b1_10 h k hk]
          · rw [if_neg (fun z => hk z.1), if_neg (fun z => hk z.1)]
        rw [ed]
        exact pR15_c (pR35_c (cmp1_c (z := sU (sU (sg.1 0) 6 (runP sg (cmpW sg e) a)) 1 (sg.1 0 1 + 1)) (z' := sU (sU (su.1 0) 6 (runP sg (cmpW sg e) a)) 1 (sg.1 0 1 + 1)) h ⟨eE_s0 h, rfl, eE_s2 h, eE_s3 h, eE_s4 h, eE_s5 h⟩ rfl))
theorem cmpS_n (sg : sT) (e a : Nat) : (cmpS sg e a).1 0 0 = sg.1 0 0 := by
  unfold cmpS
  split
  · rfl
  · split
    · rfl
    · split <;> rfl
theorem cmpS_13 (sg : sT) (e a : Nat) : (cmpS sg e a).1 13 = sg.1 13 := by
  unfold cmpS
  split
  · rfl
  · split
    · rfl
    · split <;> rfl
theorem cmpS_6 {sg : sT} {e a : Nat} (h : cmpO sg e a = 2) : (cmpS sg e a).1 0 6 = runP sg (cmpW sg e) a := by
  unfold cmpO at h
  unfold cmpS
  split
  · rename_i q; rw [if_pos q] at h; exact absurd h (by decide)
  · split
    · rfl
    · split <;> rfl
theorem roomR_c {sg su : sT} (h : eqE sg su) (t : Nat) (rm : Int) : roomR su t rm = roomR sg t rm := by
  unfold roomR
  rw [eE_s0 h, eE_f14 h, eE_f15 h, roomK_c (eE_b1_12 h) (eE_b1_17 h) (eE_b1_16 h), roomS_c (eE_b1_12 h) (eE_b1_17 h) (eE_b1_16 h)]
theorem newS_c {sg su : sT} {t a w p v : Nat} {str : Nat → Nat} (h : eqE sg su) (hg : ∀ b, (sg.1 33 a).testBit b = true → su.2 2 b = sg.2 2 b ∧ su.2 3 b = sg.2 3 b) : eqE (newS sg t a w p str v) (newS su t a w p str v) := ⟨(by show su.1 0 0 + 1 = sg.1 0 0 + 1; rw [eE_s0 (sg := sg) (su := su) h]), (eE_s1 (sg := sg) (su := su) h), (eE_s2 (sg := sg) (su := su) h), (eE_s3 (sg := sg) (su := su) h), (eE_s4 (sg := sg) (su := su) h), (eE_s5 (sg := sg) (su := su) h), (by show sU (su.1 14) (su.1 0 0) 0 = sU (sg.1 14) (sg.1 0 0) 0; rw [eE_s0 (sg := sg) (su := su) h, eE_f14 (sg := sg) (su := su) h]), (by show sU str (su.1 0 0) v = sU str (sg.1 0 0) v; rw [eE_s0 (sg := sg) (su := su) h]), (eE_f23 (sg := sg) (su := su) h), (eE_f24 (sg := sg) (su := su) h), (eE_f25 (sg := sg) (su := su) h), (eE_f26 (sg := sg) (su := su) h), (eE_f27 (sg := sg) (su := su) h), (eE_f30 (sg := sg) (su := su) h), (eE_f31 (sg := sg) (su := su) h), (eE_f32 (sg := sg) (su := su) h), (eE_f33 (sg := sg) (su := su) h), (eE_f34 (sg := sg) (su := su) h), (eE_f35 (sg := sg) (su := su) h), (eE_f36 (sg := sg) (su := su) h), (eE_f37 (sg := sg) (su := su) h), (eE_f47 (sg := sg) (su := su) h), (eE_f48 (sg := sg) (su := su) h), (eE_f49 (sg := sg) (su := su) h), (sU_cb (eE_s0 (sg := sg) (su := su) h) rfl (eE_b1_10 (sg := sg) (su := su) h)), (sU_cb (eE_s0 (sg := sg) (su := su) h) rfl (eE_b1_11 (sg := sg) (su := su) h)), (sU_cb (eE_s0 (sg := sg) (su := su) h) rfl (eE_b1_12 (sg := sg) (su := su) h)), (sU_cb (eE_s0 (sg := sg) (su := su) h) rfl (eE_b1_13 (sg := sg) (su := su) h)), (sU_cb (eE_s0 (sg := sg) (su := su) h) (congrFun (eE_f36 (sg := sg) (su := su) h) a) (eE_b1_16 (sg := sg) (su := su) h)), (sU_cb (eE_s0 (sg := sg) (su := su) h) (congrFun (eE_f37 (sg := sg) (su := su) h) a) (eE_b1_17 (sg := sg) (su := su) h)), (sU_cb (eE_s0 (sg := sg) (su := su) h) (fsv_c (congrFun (eE_f33 (sg := sg) (su := su) h) a) (fun b hb => (hg b hb).2) 14) (eE_b1_22 (sg := sg) (su := su) h)), (cpy_cb (eE_s0 (sg := sg) (su := su) h) (eE_f30 (sg := sg) (su := su) h) (eE_b1_18 (sg := sg) (su := su) h)), (cpy_cb (eE_s0 (sg := sg) (su := su) h) (eE_f31 (sg := sg) (su := su) h) (eE_b1_19 (sg := sg) (su := su) h)), (ps_cb (congrFun (eE_f33 (sg := sg) (su := su) h) a) (eE_s0 (sg := sg) (su := su) h) (fun b hb => (hg b hb).1) (eE_b2_0 (sg := sg) (su := su) h)), (ps_cb (congrFun (eE_f33 (sg := sg) (su := su) h) a) (eE_s0 (sg := sg) (su := su) h) (fun b hb => (hg b hb).2) (eE_b2_1 (sg := sg) (su := su) h))⟩
theorem entP_c {sg su : sT} {t : Nat} (h : eqE sg su) : entP su t ↔ entP sg t := by
  unfold entP
  rw [eE_s0 h, eE_s4 h]
theorem entS_c {sg su : sT} {t a w p : Nat} (h : eqE sg su) (hg : ∀ b, (sg.1 33 a).testBit b = true → su.2 2 b = sg.2 2 b ∧ su.2 3 b = sg.2 3 b) : eqE (entS sg t a w p) (entS su t a w p) := by
  unfold entS
  by_cases q : entP sg t
  · rw [if_pos q, if_pos ((entP_c h).mpr q), eE_f37 h, eE_f47 h, roomR_c h, eE_f15 h]
    by_cases r : sg.1 37 a ≤ sg.1 47 t
    · rw [if_pos r, if_pos r]; exact newS_c h hg
    · rw [if_neg r, if_neg r]; exact newS_c h hg
  · rw [if_neg q, if_neg (fun z => q ((entP_c h).mp z))]
    exact h
theorem entS_g {sg : sT} {t a w p : Nat} (q : entP sg t) : (entS sg t a w p).2 2 a = ((p : Nat) : Int) ∧ (entS sg t a w p).2 3 a = ((sg.1 0 0 : Nat) : Int) := by
  unfold entS
  rw [if_pos q]
  split
  · exact ⟨sU_s _ _ _, sU_s _ _ _⟩
  · exact ⟨sU_s _ _ _, sU_s _ _ _⟩
theorem inp_c {sg su : sT} {e : Nat} (h : eqE sg su) (he : e < sg.1 0 0) : inpS su e ↔ inpS sg e := by
  unfold inpS inpP
  rw [eE_f32 h, eE_f30 h, eE_f34 h, eE_f35 h, eE_s2 h, eE_b1_10 h e he, chgS_c h he]
  rw [allB_c (p' := fun f => decide ((sg.1 32 (sg.1 10 e)).testBit f = true → su.1 18 (e * 8 + f) = sg.1 30 f)) (p := fun f => decide ((sg.1 32 (sg.1 10 e)).testBit f = true → sg.1 18 (e * 8 + f) = sg.1 30 f)) (fun k hk => by rw [eE_b1_18 h _ (by omega)])]
theorem hit_c {sg su : sT} {e a : Nat} (h : eqE sg su) (he : e < sg.1 0 0) (hg : ∀ b, (sg.1 33 a).testBit b = true → su.2 2 b = sg.2 2 b) : hitX su a e ↔ hitX sg a e := by
  have h1 := inp_c h he
  have h2 : allB (fun b => decide ((su.1 33 a).testBit b = true → su.2 0 (e * 14 + b) = su.2 2 b)) 14 = allB (fun b => decide ((sg.1 33 a).testBit b = true → sg.2 0 (e * 14 + b) = sg.2 2 b)) 14 := by
    refine allB_c (fun k hk => ?_)
    rw [eE_f33 h, eE_b2_0 h _ (by omega)]
    by_cases q : (sg.1 33 a).testBit k = true
    · rw [hg k q]
    · rw [decide_eq_true (fun z => absurd z q), decide_eq_true (fun z => absurd z q)]
  constructor
  · intro z
    exact ⟨by rw [← eE_b1_10 h e he, ← eE_f15 h]; exact z.1, h1.mp z.2.1, by rw [← h2]; exact z.2.2⟩
  · intro z
    exact ⟨by rw [eE_b1_10 h e he, eE_f15 h]; exact z.1, h1.mpr z.2.1, by rw [h2]; exact z.2.2⟩
theorem obtH_c {sg su : sT} {a : Nat} (h : eqE sg su) (hg : ∀ b, (sg.1 33 a).testBit b = true → su.2 2 b = sg.2 2 b) : obtH su a = obtH sg a := by
  unfold obtH
  rw [eE_s0 h]
  exact fst_c (fun e he => hit_c h he hg)
theorem due_c {sg su : sT} (h : eqE sg su) : dueP su ↔ dueP sg := by
  unfold dueP
  rw [eE_s0 h, eE_s5 h, eE_f14 h]
theorem aft_c {sg su : sT} {e a : Nat} (h : eqE sg su) (he : e < sg.1 0 0) (hg : ∀ b, (sg.1 33 a).testBit b = true → su.2 2 b = sg.2 2 b) : eqE (aftS sg e a) (aftS su e a) := by
  unfold aftS
  by_cases q : dueP sg
  · rw [if_pos q, if_pos ((due_c h).mpr q)]; exact cmpS_c h he hg
  · rw [if_neg q, if_neg (fun z => q ((due_c h).mp z))]; exact h
theorem aftS_n (sg : sT) (e a : Nat) : (aftS sg e a).1 0 0 = sg.1 0 0 := by
  unfold aftS
  split
  · exact cmpS_n _ _ _
  · rfl
theorem obtS_c {sg su : sT} {t a : Nat} (h : eqE sg su) (hg : ∀ b, (sg.1 33 a).testBit b = true → su.2 2 b = sg.2 2 b ∧ su.2 3 b = sg.2 3 b) : obtB su t a = obtB sg t a ∧ eqE (obtS sg t a) (obtS su t a) ∧ (obtB sg t a = true → (obtS su t a).2 2 a = (obtS sg t a).2 2 a ∧ (obtS su t a).2 3 a = (obtS sg t a).2 3 a) := by
  have hg1 : ∀ b, (sg.1 33 a).testBit b = true → su.2 2 b = sg.2 2 b := fun b hb => (hg b hb).1
  have eH := obtH_c h hg1
  have eW : obtW su = obtW sg := choS_c h _
  have hle := fstN_le (hitX sg a) (sg.1 0 0)
  unfold obtB obtS obtN
  rw [eH, eW]
  by_cases q : obtH sg a = 0
  · simp only [if_pos q]
    by_cases r : obtW sg = 0
    · simp only [if_pos r]
      exact ⟨trivial, h, fun z => absurd z (by decide)⟩
    · simp only [if_neg r]
      have h1 : eqE (runS sg (obtW sg - 1) a) (runS su (obtW sg - 1) a) := runS_c h
      rw [runP_c h hg1]
      refine ⟨decide_eq_decide.mpr (entP_c h1), entS_c h1 hg, fun z => ?_⟩
      have z1 := of_decide_eq_true z
      have g1 := entS_g (a := a) (w := obtW sg - 1) (p := runP sg (obtW sg - 1) a) z1
      have g2 := entS_g (a := a) (w := obtW sg - 1) (p := runP sg (obtW sg - 1) a) ((entP_c h1).mpr z1)
      exact ⟨g2.1.trans g1.1.symm, by rw [g2.2, g1.2, eE_s0 h1]⟩
  · simp only [if_neg q]
    have he : obtH sg a - 1 < sg.1 0 0 := by
      have h3 : obtH sg a ≤ sg.1 0 0 := hle
      omega
    generalize obtH sg a - 1 = e at he ⊢
    have h1 : eqE (hitS sg t e a) (hitS su t e a) := hitS_c h
    have hgh : ∀ b, ((hitS sg t e a).1 33 a).testBit b = true → (hitS su t e a).2 2 b = (hitS sg t e a).2 2 b := hg1
    have eO := cmpO_c h1 he hgh
    have eC : chkP (hitS su t e a) e a ↔ chkP (hitS sg t e a) e a := by
      unfold chkP
      rw [eO]
      exact and_congr_left' (due_c h1)
    by_cases r : chkP (hitS sg t e a) e a
    · simp only [if_pos r, if_pos (eC.mpr r)]
      have h2 : eqE (cmpS (hitS sg t e a) e a) (cmpS (hitS su t e a) e a) := cmpS_c h1 he hgh
      have hg2 : ∀ b, ((cmpS (hitS sg t e a) e a).1 33 a).testBit b = true → (cmpS (hitS su t e a) e a).2 2 b = (cmpS (hitS sg t e a) e a).2 2 b ∧ (cmpS (hitS su t e a) e a).2 3 b = (cmpS (hitS sg t e a) e a).2 3 b := by
        intro b hb
        rw [cmpS_33] at hb
        rw [cmpS_z _ _ _ 2 (by decide), cmpS_z _ _ _ 2 (by decide), cmpS_z _ _ _ 3 (by decide), cmpS_z _ _ _ 3 (by decide)]
        exact hg b hb
      rw [cmpS_6 r.2, cmpS_6 (eC.mpr r).2, cmpW_c h1 he, runP_c h1 hgh]
      refine ⟨decide_eq_decide.mpr (entP_c h2), entS_c h2 hg2, fun z => ?_⟩
      have z1 := of_decide_eq_true z
      have g1 := entS_g (a := a) (w := cmpW (hitS sg t e a) e) (p := runP (hitS sg t e a) (cmpW (hitS sg t e a) e) a) z1
      have g2 := entS_g (a := a) (w := cmpW (hitS sg t e a) e) (p := runP (hitS sg t e a) (cmpW (hitS sg t e a) e) a) ((entP_c h2).mpr z1)
      exact ⟨g2.1.trans g1.1.symm, by rw [g2.2, g1.2, eE_s0 h2]⟩
    · simp only [if_neg r, if_neg (fun z => r (eC.mp z))]
      have h2 : eqE (aftS (hitS sg t e a) e a) (aftS (hitS su t e a) e a) := aft_c h1 he hgh
      refine ⟨trivial, gotS_c h2, fun _ => ?_⟩
      have e2 : ∀ (s : sT) (p e : Nat), (gotS s a p e).2 2 a = ((p : Nat) : Int) := fun s p e => sU_s _ _ _
      have e3 : ∀ (s : sT) (p e : Nat), (gotS s a p e).2 3 a = ((e : Nat) : Int) := fun s p e => sU_s _ _ _
      rw [e2, e2, e3, e3, eE_b1_13 h2 e (by rw [aftS_n]; exact he)]
      exact ⟨rfl, rfl⟩
theorem attI_c {sg su : sT} {t a : Nat} (h : eqE sg su) (hr : ∀ c k, c ≤ a → (sg.1 33 c).testBit k = true → k < c) : ∀ i, i ≤ a + 1 → (attI su t (attD sg a) i).2 = (attI sg t (attD sg a) i).2 ∧ eqE (attI sg t (attD sg a) i).1 (attI su t (attD sg a) i).1 ∧ (attI sg t (attD sg a) i).1.1 33 = sg.1 33 ∧ ((attI sg t (attD sg a) i).2 = true → ∀ b, b < i → (attD sg a).testBit b = true → (attI su t (attD sg a) i).1.2 2 b = (attI sg t (attD sg a) i).1.2 2 b ∧ (attI su t (attD sg a) i).1.2 3 b = (attI sg t (attD sg a) i).1.2 3 b)
  | 0, _ => ⟨rfl, h, rfl, fun _ b hb => absurd hb (Nat.not_lt_zero b)⟩
  | i + 1, hi => by
    obtain ⟨h1, h2, h3, h4⟩ := attI_c h hr i (by omega)
    rw [attI_s, attI_s, h1]
    by_cases q : (attI sg t (attD sg a) i).2 = true ∧ (attD sg a).testBit i = true
    · rw [if_pos q, if_pos q]
      have hg : ∀ b, ((attI sg t (attD sg a) i).1.1 33 i).testBit b = true → (attI su t (attD sg a) i).1.2 2 b = (attI sg t (attD sg a) i).1.2 2 b ∧ (attI su t (attD sg a) i).1.2 3 b = (attI sg t (attD sg a) i).1.2 3 b := by
        intro b hb
        rw [h3] at hb
        exact h4 q.1 b (hr i b (by omega) hb) (needN_closed hr (by omega) q.2 hb)
      obtain ⟨k1, k2, k3⟩ := obtS_c (t := t) h2 hg
      refine ⟨k1, k2, (obtS_33 _ _ _).trans h3, fun ho b hb hb2 => ?_⟩
      by_cases e : b = i
      · subst e; exact k3 ho
      · show (obtS (attI su t (attD sg a) i).1 t i).2 2 b = (obtS (attI sg t (attD sg a) i).1 t i).2 2 b ∧ (obtS (attI su t (attD sg a) i).1 t i).2 3 b = (obtS (attI sg t (attD sg a) i).1 t i).2 3 b
        rw [obtS_z (Or.inl rfl) e, obtS_z (Or.inl rfl) e, obtS_z (Or.inr rfl) e, obtS_z (Or.inr rfl) e]
        exact h4 q.1 b (by omega) hb2
    · rw [if_neg q, if_neg q]
      refine ⟨h1, h2, h3, fun ho b hb hb2 => ?_⟩
      have hne : b ≠ i := fun z => q ⟨ho, by rw [← z]; exact hb2⟩
      exact h4 ho b (by omega) hb2
theorem needI {ac : Nat → Nat} {a : Nat} : ∀ n, (needN ac a n).testBit a = true
  | 0 => by show (2 ^ a).testBit a = true; rw [Nat.testBit_two_pow]; exact decide_eq_true rfl
  | n + 1 => needN_mono (needI n)
/-- an attempt of states that tell the same -/
theorem att_c {sg su : sT} {t a : Nat} (h : eqE sg su) (hr : ∀ c k, c ≤ a → (sg.1 33 c).testBit k = true → k < c) : attB su t a = attB sg t a ∧ eqE (attS sg t a) (attS su t a) ∧ (attB sg t a = true → (attS su t a).2 2 a = (attS sg t a).2 2 a) := by
  have eD : attD su a = attD sg a := by unfold attD; rw [eE_f33 h]
  obtain ⟨h1, h2, -, h4⟩ := attI_c (t := t) h hr (a + 1) (Nat.le_refl _)
  unfold attB attS
  rw [eD]
  exact ⟨h1, h2, fun ho => (h4 ho a (by omega) (needI _)).1⟩
