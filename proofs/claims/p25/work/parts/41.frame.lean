/-! pure: what an attempt leaves as it was; what is put back -/
def frm (sg su : sT) : Prop := (su.1 0 2 = sg.1 0 2) ∧ (su.1 0 3 = sg.1 0 3) ∧ (su.1 0 4 = sg.1 0 4) ∧ (su.1 0 5 = sg.1 0 5) ∧ (su.1 0 7 = sg.1 0 7) ∧ (su.1 0 8 = sg.1 0 8) ∧ (su.1 23 = sg.1 23) ∧ (su.1 30 = sg.1 30) ∧ (su.1 31 = sg.1 31) ∧ (su.1 32 = sg.1 32) ∧ (su.1 33 = sg.1 33) ∧ (su.1 34 = sg.1 34) ∧ (su.1 36 = sg.1 36) ∧ (su.1 37 = sg.1 37) ∧ (su.1 39 = sg.1 39) ∧ (su.1 40 = sg.1 40) ∧ (su.1 41 = sg.1 41) ∧ (su.1 42 = sg.1 42) ∧ (su.1 43 = sg.1 43) ∧ (su.1 44 = sg.1 44) ∧ (su.1 45 = sg.1 45) ∧ (su.1 46 = sg.1 46) ∧ (su.1 47 = sg.1 47) ∧ (su.1 49 = sg.1 49) ∧ (sg.1 0 0 ≤ su.1 0 0) ∧ (∀ k, k < sg.1 0 0 → su.1 10 k = sg.1 10 k) ∧ (∀ k, k < sg.1 0 0 → su.1 11 k = sg.1 11 k) ∧ (∀ k, k < sg.1 0 0 → su.1 12 k = sg.1 12 k) ∧ (∀ k, k < sg.1 0 0 → su.1 13 k = sg.1 13 k) ∧ (∀ k, k < sg.1 0 0 → su.1 16 k = sg.1 16 k) ∧ (∀ k, k < sg.1 0 0 → su.1 17 k = sg.1 17 k) ∧ (∀ k, k < sg.1 0 0 → su.1 22 k = sg.1 22 k) ∧ (∀ k, k < sg.1 0 0 * 8 → su.1 18 k = sg.1 18 k) ∧ (∀ k, k < sg.1 0 0 * 6 → su.1 19 k = sg.1 19 k) ∧ (∀ k, k < sg.1 0 0 * 14 → su.2 0 k = sg.2 0 k) ∧ (∀ k, k < sg.1 0 0 * 14 → su.2 1 k = sg.2 1 k)
theorem fr_s2 {sg su : sT} (h : frm sg su) : su.1 0 2 = sg.1 0 2 := h.1
theorem fr_s3 {sg su : sT} (h : frm sg su) : su.1 0 3 = sg.1 0 3 := h.2.1
theorem fr_s4 {sg su : sT} (h : frm sg su) : su.1 0 4 = sg.1 0 4 := h.2.2.1
theorem fr_s5 {sg su : sT} (h : frm sg su) : su.1 0 5 = sg.1 0 5 := h.2.2.2.1
theorem fr_s7 {sg su : sT} (h : frm sg su) : su.1 0 7 = sg.1 0 7 := h.2.2.2.2.1
theorem fr_s8 {sg su : sT} (h : frm sg su) : su.1 0 8 = sg.1 0 8 := h.2.2.2.2.2.1
theorem fr_f23 {sg su : sT} (h : frm sg su) : su.1 23 = sg.1 23 := h.2.2.2.2.2.2.1
theorem fr_f30 {sg su : sT} (h : frm sg su) : su.1 30 = sg.1 30 := h.2.2.2.2.2.2.2.1
theorem fr_f31 {sg su : sT} (h : frm sg su) : su.1 31 = sg.1 31 := h.2.2.2.2.2.2.2.2.1
theorem fr_f32 {sg su : sT} (h : frm sg su) : su.1 32 = sg.1 32 := h.2.2.2.2.2.2.2.2.2.1
theorem fr_f33 {sg su : sT} (h : frm sg su) : su.1 33 = sg.1 33 := h.2.2.2.2.2.2.2.2.2.2.1
theorem fr_f34 {sg su : sT} (h : frm sg su) : su.1 34 = sg.1 34 := h.2.2.2.2.2.2.2.2.2.2.2.1
theorem fr_f36 {sg su : sT} (h : frm sg su) : su.1 36 = sg.1 36 := h.2.2.2.2.2.2.2.2.2.2.2.2.1
theorem fr_f37 {sg su : sT} (h : frm sg su) : su.1 37 = sg.1 37 := h.2.2.2.2.2.2.2.2.2.2.2.2.2.1
theorem fr_f39 {sg su : sT} (h : frm sg su) : su.1 39 = sg.1 39 := h.2.2.2.2.2.2.2.2.2.2.2.2.2.2.1
theorem fr_f40 {sg su : sT} (h : frm sg su) : su.1 40 = sg.1 40 := h.2.2.2.2.2.2.2.2.2.2.2.2.2.2.2.1
theorem fr_f41 {sg su : sT} (h : frm sg su) : su.1 41 = sg.1 41 := h.2.2.2.2.2.2.2.2.2.2.2.2.2.2.2.2.1
theorem fr_f42 {sg su : sT} (h : frm sg su) : su.1 42 = sg.1 42 := h.2.2.2.2.2.2.2.2.2.2.2.2.2.2.2.2.2.1
theorem fr_f43 {sg su : sT} (h : frm sg su) : su.1 43 = sg.1 43 := h.2.2.2.2.2.2.2.2.2.2.2.2.2.2.2.2.2.2.1
theorem fr_f44 {sg su : sT} (h : frm sg su) : su.1 44 = sg.1 44 := h.2.2.2.2.2.2.2.2.2.2.2.2.2.2.2.2.2.2.2.1
theorem fr_f45 {sg su : sT} (h : frm sg su) : su.1 45 = sg.1 45 := h.2.2.2.2.2.2.2.2.2.2.2.2.2.2.2.2.2.2.2.2.1
theorem fr_f46 {sg su : sT} (h : frm sg su) : su.1 46 = sg.1 46 := h.2.2.2.2.2.2.2.2.2.2.2.2.2.2.2.2.2.2.2.2.2.1
theorem fr_f47 {sg su : sT} (h : frm sg su) : su.1 47 = sg.1 47 := h.2.2.2.2.2.2.2.2.2.2.2.2.2.2.2.2.2.2.2.2.2.2.1
theorem fr_f49 {sg su : sT} (h : frm sg su) : su.1 49 = sg.1 49 := h.2.2.2.2.2.2.2.2.2.2.2.2.2.2.2.2.2.2.2.2.2.2.2.1
theorem fr_n {sg su : sT} (h : frm sg su) : sg.1 0 0 ≤ su.1 0 0 := h.2.2.2.2.2.2.2.2.2.2.2.2.2.2.2.2.2.2.2.2.2.2.2.2.1
theorem fr_b1_10 {sg su : sT} (h : frm sg su) : ∀ k, k < sg.1 0 0 → su.1 10 k = sg.1 10 k := h.2.2.2.2.2.2.2.2.2.2.2.2.2.2.2.2.2.2.2.2.2.2.2.2.2.1
theorem fr_b1_11 {sg su : sT} (h : frm sg su) : ∀ k, k < sg.1 0 0 → su.1 11 k = sg.1 11 k := h.2.2.2.2.2.2.2.2.2.2.2.2.2.2.2.2.2.2.2.2.2.2.2.2.2.2.1
theorem fr_b1_12 {sg su : sT} (h : frm sg su) : ∀ k, k < sg.1 0 0 → su.1 12 k = sg.1 12 k := h.2.2.2.2.2.2.2.2.2.2.2.2.2.2.2.2.2.2.2.2.2.2.2.2.2.2.2.1
theorem fr_b1_13 {sg su : sT} (h : frm sg su) : ∀ k, k < sg.1 0 0 → su.1 13 k = sg.1 13 k := h.2.2.2.2.2.2.2.2.2.2.2.2.2.2.2.2.2.2.2.2.2.2.2.2.2.2.2.2.1
theorem fr_b1_16 {sg su : sT} (h : frm sg su) : ∀ k, k < sg.1 0 0 → su.1 16 k = sg.1 16 k := h.2.2.2.2.2.2.2.2.2.2.2.2.2.2.2.2.2.2.2.2.2.2.2.2.2.2.2.2.2.1
theorem fr_b1_17 {sg su : sT} (h : frm sg su) : ∀ k, k < sg.1 0 0 → su.1 17 k = sg.1 17 k := h.2.2.2.2.2.2.2.2.2.2.2.2.2.2.2.2.2.2.2.2.2.2.2.2.2.2.2.2.2.2.1
theorem fr_b1_22 {sg su : sT} (h : frm sg su) : ∀ k, k < sg.1 0 0 → su.1 22 k = sg.1 22 k := h.2.2.2.2.2.2.2.2.2.2.2.2.2.2.2.2.2.2.2.2.2.2.2.2.2.2.2.2.2.2.2.1
theorem fr_b1_18 {sg su : sT} (h : frm sg su) : ∀ k, k < sg.1 0 0 * 8 → su.1 18 k = sg.1 18 k := h.2.2.2.2.2.2.2.2.2.2.2.2.2.2.2.2.2.2.2.2.2.2.2.2.2.2.2.2.2.2.2.2.1
theorem fr_b1_19 {sg su : sT} (h : frm sg su) : ∀ k, k < sg.1 0 0 * 6 → su.1 19 k = sg.1 19 k := h.2.2.2.2.2.2.2.2.2.2.2.2.2.2.2.2.2.2.2.2.2.2.2.2.2.2.2.2.2.2.2.2.2.1
theorem fr_b2_0 {sg su : sT} (h : frm sg su) : ∀ k, k < sg.1 0 0 * 14 → su.2 0 k = sg.2 0 k := h.2.2.2.2.2.2.2.2.2.2.2.2.2.2.2.2.2.2.2.2.2.2.2.2.2.2.2.2.2.2.2.2.2.2.1
theorem fr_b2_1 {sg su : sT} (h : frm sg su) : ∀ k, k < sg.1 0 0 * 14 → su.2 1 k = sg.2 1 k := h.2.2.2.2.2.2.2.2.2.2.2.2.2.2.2.2.2.2.2.2.2.2.2.2.2.2.2.2.2.2.2.2.2.2.2
theorem fr_refl (sg : sT) : frm sg sg := ⟨rfl, rfl, rfl, rfl, rfl, rfl, rfl, rfl, rfl, rfl, rfl, rfl, rfl, rfl, rfl, rfl, rfl, rfl, rfl, rfl, rfl, rfl, rfl, rfl, (Nat.le_refl _), (fun _ _ => rfl), (fun _ _ => rfl), (fun _ _ => rfl), (fun _ _ => rfl), (fun _ _ => rfl), (fun _ _ => rfl), (fun _ _ => rfl), (fun _ _ => rfl), (fun _ _ => rfl), (fun _ _ => rfl), (fun _ _ => rfl)⟩
theorem fr_trans {sg su sv : sT} (h : frm sg su) (h2 : frm su sv) : frm sg sv := ⟨((fr_s2 h2).trans (fr_s2 h)), ((fr_s3 h2).trans (fr_s3 h)), ((fr_s4 h2).trans (fr_s4 h)), ((fr_s5 h2).trans (fr_s5 h)), ((fr_s7 h2).trans (fr_s7 h)), ((fr_s8 h2).trans (fr_s8 h)), ((fr_f23 h2).trans (fr_f23 h)), ((fr_f30 h2).trans (fr_f30 h)), ((fr_f31 h2).trans (fr_f31 h)), ((fr_f32 h2).trans (fr_f32 h)), ((fr_f33 h2).trans (fr_f33 h)), ((fr_f34 h2).trans (fr_f34 h)), ((fr_f36 h2).trans (fr_f36 h)), ((fr_f37 h2).trans (fr_f37 h)), ((fr_f39 h2).trans (fr_f39 h)), ((fr_f40 h2).trans (fr_f40 h)), ((fr_f41 h2).trans (fr_f41 h)), ((fr_f42 h2).trans (fr_f42 h)), ((fr_f43 h2).trans (fr_f43 h)), ((fr_f44 h2).trans (fr_f44 h)), ((fr_f45 h2).trans (fr_f45 h)), ((fr_f46 h2).trans (fr_f46 h)), ((fr_f47 h2).trans (fr_f47 h)), ((fr_f49 h2).trans (fr_f49 h)), (Nat.le_trans (fr_n h) (fr_n h2)), (fun k hk => (fr_b1_10 h2 k (by have h9 := fr_n h; omega)).trans (fr_b1_10 h k hk)), (fun k hk => (fr_b1_11 h2 k (by have h9 := fr_n h; omega)).trans (fr_b1_11 h k hk)), (fun k hk => (fr_b1_12 h2 k (by have h9 := fr_n h; omega)).trans (fr_b1_12 h k hk)), (fun k hk => (fr_b1_13 h2 k (by have h9 := fr_n h; omega)).trans (fr_b1_13 h k hk)), (fun k hk => (fr_b1_16 h2 k (by have h9 := fr_n h; omega)).trans (fr_b1_16 h k hk)), (fun k hk => (fr_b1_17 h2 k (by have h9 := fr_n h; omega)).trans (fr_b1_17 h k hk)), (fun k hk => (fr_b1_22 h2 k (by have h9 := fr_n h; omega)).trans (fr_b1_22 h k hk)), (fun k hk => (fr_b1_18 h2 k (by have h9 := fr_n h; omega)).trans (fr_b1_18 h k hk)), (fun k hk => (fr_b1_19 h2 k (by have h9 := fr_n h; omega)).trans (fr_b1_19 h k hk)), (fun k hk => (fr_b2_0 h2 k (by have h9 := fr_n h; omega)).trans (fr_b2_0 h k hk)), (fun k hk => (fr_b2_1 h2 k (by have h9 := fr_n h; omega)).trans (fr_b2_1 h k hk))⟩
theorem fr_run (sg : sT) (w a : Nat) : frm sg (runS sg w a) := ⟨rfl, rfl, rfl, rfl, rfl, rfl, rfl, rfl, rfl, rfl, rfl, rfl, rfl, rfl, rfl, rfl, rfl, rfl, rfl, rfl, rfl, rfl, rfl, rfl, (Nat.le_refl _), (fun _ _ => rfl), (fun _ _ => rfl), (fun _ _ => rfl), (fun _ _ => rfl), (fun _ _ => rfl), (fun _ _ => rfl), (fun _ _ => rfl), (fun _ _ => rfl), (fun _ _ => rfl), (fun _ _ => rfl), (fun _ _ => rfl)⟩
theorem fr_hit (sg : sT) (t e a : Nat) : frm sg (hitS sg t e a) := ⟨rfl, rfl, rfl, rfl, rfl, rfl, rfl, rfl, rfl, rfl, rfl, rfl, rfl, rfl, rfl, rfl, rfl, rfl, rfl, rfl, rfl, rfl, rfl, rfl, (Nat.le_refl _), (fun _ _ => rfl), (fun _ _ => rfl), (fun _ _ => rfl), (fun _ _ => rfl), (fun _ _ => rfl), (fun _ _ => rfl), (fun _ _ => rfl), (fun _ _ => rfl), (fun _ _ => rfl), (fun _ _ => rfl), (fun _ _ => rfl)⟩
theorem fr_got (sg : sT) (a p e : Nat) : frm sg (gotS sg a p e) := ⟨rfl, rfl, rfl, rfl, rfl, rfl, rfl, rfl, rfl, rfl, rfl, rfl, rfl, rfl, rfl, rfl, rfl, rfl, rfl, rfl, rfl, rfl, rfl, rfl, (Nat.le_refl _), (fun _ _ => rfl), (fun _ _ => rfl), (fun _ _ => rfl), (fun _ _ => rfl), (fun _ _ => rfl), (fun _ _ => rfl), (fun _ _ => rfl), (fun _ _ => rfl), (fun _ _ => rfl), (fun _ _ => rfl), (fun _ _ => rfl)⟩
theorem fr_cmp (sg : sT) (e a : Nat) : frm sg (cmpS sg e a) := by
  unfold cmpS
  split
  · exact ⟨rfl, rfl, rfl, rfl, rfl, rfl, rfl, rfl, rfl, rfl, rfl, rfl, rfl, rfl, rfl, rfl, rfl, rfl, rfl, rfl, rfl, rfl, rfl, rfl, (Nat.le_refl _), (fun _ _ => rfl), (fun _ _ => rfl), (fun _ _ => rfl), (fun _ _ => rfl), (fun _ _ => rfl), (fun _ _ => rfl), (fun _ _ => rfl), (fun _ _ => rfl), (fun _ _ => rfl), (fun _ _ => rfl), (fun _ _ => rfl)⟩
  · split
    · exact ⟨rfl, rfl, rfl, rfl, rfl, rfl, rfl, rfl, rfl, rfl, rfl, rfl, rfl, rfl, rfl, rfl, rfl, rfl, rfl, rfl, rfl, rfl, rfl, rfl, (Nat.le_refl _), (fun _ _ => rfl), (fun _ _ => rfl), (fun _ _ => rfl), (fun _ _ => rfl), (fun _ _ => rfl), (fun _ _ => rfl), (fun _ _ => rfl), (fun _ _ => rfl), (fun _ _ => rfl), (fun _ _ => rfl), (fun _ _ => rfl)⟩
    · split
      · exact ⟨rfl, rfl, rfl, rfl, rfl, rfl, rfl, rfl, rfl, rfl, rfl, rfl, rfl, rfl, rfl, rfl, rfl, rfl, rfl, rfl, rfl, rfl, rfl, rfl, (Nat.le_refl _), (fun _ _ => rfl), (fun _ _ => rfl), (fun _ _ => rfl), (fun _ _ => rfl), (fun _ _ => rfl), (fun _ _ => rfl), (fun _ _ => rfl), (fun _ _ => rfl), (fun _ _ => rfl), (fun _ _ => rfl), (fun _ _ => rfl)⟩
      · exact ⟨rfl, rfl, rfl, rfl, rfl, rfl, rfl, rfl, rfl, rfl, rfl, rfl, rfl, rfl, rfl, rfl, rfl, rfl, rfl, rfl, rfl, rfl, rfl, rfl, (Nat.le_refl _), (fun _ _ => rfl), (fun _ _ => rfl), (fun _ _ => rfl), (fun _ _ => rfl), (fun _ _ => rfl), (fun _ _ => rfl), (fun _ _ => rfl), (fun _ _ => rfl), (fun _ _ => rfl), (fun _ _ => rfl), (fun _ _ => rfl)⟩
theorem fr_new (sg : sT) (t a w p v : Nat) (str : Nat → Nat) : frm sg (newS sg t a w p str v) := ⟨rfl, rfl, rfl, rfl, rfl, rfl, rfl, rfl, rfl, rfl, rfl, rfl, rfl, rfl, rfl, rfl, rfl, rfl, rfl, rfl, rfl, rfl, rfl, rfl, (Nat.le_succ _), (fun k hk => sU_n _ _ (show k ≠ sg.1 0 0 by omega)), (fun k hk => sU_n _ _ (show k ≠ sg.1 0 0 by omega)), (fun k hk => sU_n _ _ (show k ≠ sg.1 0 0 by omega)), (fun k hk => sU_n _ _ (show k ≠ sg.1 0 0 by omega)), (fun k hk => sU_n _ _ (show k ≠ sg.1 0 0 by omega)), (fun k hk => sU_n _ _ (show k ≠ sg.1 0 0 by omega)), (fun k hk => sU_n _ _ (show k ≠ sg.1 0 0 by omega)), (fun k hk => if_neg (by omega)), (fun k hk => if_neg (by omega)), (fun k hk => if_neg (by omega)), (fun k hk => if_neg (by omega))⟩
theorem fr_ent (sg : sT) (t a w p : Nat) : frm sg (entS sg t a w p) := by
  unfold entS
  split
  · split
    · exact fr_new _ _ _ _ _ _ _
    · exact fr_new _ _ _ _ _ _ _
  · exact fr_refl _
theorem fr_aft (sg : sT) (e a : Nat) : frm sg (aftS sg e a) := by
  unfold aftS
  split
  · exact fr_cmp _ _ _
  · exact fr_refl _
theorem fr_obt (sg : sT) (t a : Nat) : frm sg (obtS sg t a) := by
  unfold obtS
  split
  · split
    · exact fr_refl _
    · exact fr_trans (fr_run _ _ _) (fr_ent _ _ _ _ _)
  · split
    · exact fr_trans (fr_hit _ _ _ _) (fr_trans (fr_cmp _ _ _) (fr_ent _ _ _ _ _))
    · exact fr_trans (fr_hit _ _ _ _) (fr_trans (fr_aft _ _ _) (fr_got _ _ _ _))
theorem fr_att (sg : sT) (t nd : Nat) : ∀ i, frm sg (attI sg t nd i).1
  | 0 => fr_refl _
  | i + 1 => by
    rw [attI_s]
    split
    · exact fr_trans (fr_att sg t nd i) (fr_obt _ _ _)
    · exact fr_att sg t nd i
theorem fr_38 {sg su : sT} (h : frm sg su) {f : Nat → Nat} : frm sg (pR 38 f su) := ⟨(fr_s2 (sg := sg) (su := su) h), (fr_s3 (sg := sg) (su := su) h), (fr_s4 (sg := sg) (su := su) h), (fr_s5 (sg := sg) (su := su) h), (fr_s7 (sg := sg) (su := su) h), (fr_s8 (sg := sg) (su := su) h), (fr_f23 (sg := sg) (su := su) h), (fr_f30 (sg := sg) (su := su) h), (fr_f31 (sg := sg) (su := su) h), (fr_f32 (sg := sg) (su := su) h), (fr_f33 (sg := sg) (su := su) h), (fr_f34 (sg := sg) (su := su) h), (fr_f36 (sg := sg) (su := su) h), (fr_f37 (sg := sg) (su := su) h), (fr_f39 (sg := sg) (su := su) h), (fr_f40 (sg := sg) (su := su) h), (fr_f41 (sg := sg) (su := su) h), (fr_f42 (sg := sg) (su := su) h), (fr_f43 (sg := sg) (su := su) h), (fr_f44 (sg := sg) (su := su) h), (fr_f45 (sg := sg) (su := su) h), (fr_f46 (sg := sg) (su := su) h), (fr_f47 (sg := sg) (su := su) h), (fr_f49 (sg := sg) (su := su) h), (fr_n (sg := sg) (su := su) h), (fr_b1_10 (sg := sg) (su := su) h), (fr_b1_11 (sg := sg) (su := su) h), (fr_b1_12 (sg := sg) (su := su) h), (fr_b1_13 (sg := sg) (su := su) h), (fr_b1_16 (sg := sg) (su := su) h), (fr_b1_17 (sg := sg) (su := su) h), (fr_b1_22 (sg := sg) (su := su) h), (fr_b1_18 (sg := sg) (su := su) h), (fr_b1_19 (sg := sg) (su := su) h), (fr_b2_0 (sg := sg) (su := su) h), (fr_b2_1 (sg := sg) (su := su) h)⟩
theorem fr_15 (sg : sT) (f : Nat → Nat) : frm sg (pR 15 f sg) := ⟨rfl, rfl, rfl, rfl, rfl, rfl, rfl, rfl, rfl, rfl, rfl, rfl, rfl, rfl, rfl, rfl, rfl, rfl, rfl, rfl, rfl, rfl, rfl, rfl, (Nat.le_refl _), (fun _ _ => rfl), (fun _ _ => rfl), (fun _ _ => rfl), (fun _ _ => rfl), (fun _ _ => rfl), (fun _ _ => rfl), (fun _ _ => rfl), (fun _ _ => rfl), (fun _ _ => rfl), (fun _ _ => rfl), (fun _ _ => rfl)⟩
theorem snap_E (sg : sT) : eqE sg (snapS sg) := ⟨rfl, rfl, rfl, rfl, rfl, rfl, rfl, rfl, rfl, rfl, rfl, rfl, rfl, rfl, rfl, rfl, rfl, rfl, rfl, rfl, rfl, rfl, rfl, rfl, (fun _ _ => rfl), (fun _ _ => rfl), (fun _ _ => rfl), (fun _ _ => rfl), (fun _ _ => rfl), (fun _ _ => rfl), (fun _ _ => rfl), (fun _ _ => rfl), (fun _ _ => rfl), (fun _ _ => rfl), (fun _ _ => rfl)⟩
theorem back_E {sg su : sT} (h : frm (snapS sg) su) : eqE sg (backS su) := ⟨(fr_s7 (sg := snapS sg) (su := su) h), (fr_s8 (sg := snapS sg) (su := su) h), (fr_s2 (sg := snapS sg) (su := su) h), (fr_s3 (sg := snapS sg) (su := su) h), (fr_s4 (sg := snapS sg) (su := su) h), (fr_s5 (sg := snapS sg) (su := su) h), (fr_f45 (sg := snapS sg) (su := su) h), (fr_f46 (sg := snapS sg) (su := su) h), (fr_f23 (sg := snapS sg) (su := su) h), (fr_f40 (sg := snapS sg) (su := su) h), (fr_f41 (sg := snapS sg) (su := su) h), (fr_f42 (sg := snapS sg) (su := su) h), (fr_f43 (sg := snapS sg) (su := su) h), (fr_f30 (sg := snapS sg) (su := su) h), (fr_f31 (sg := snapS sg) (su := su) h), (fr_f32 (sg := snapS sg) (su := su) h), (fr_f33 (sg := snapS sg) (su := su) h), (fr_f34 (sg := snapS sg) (su := su) h), (fr_f39 (sg := snapS sg) (su := su) h), (fr_f36 (sg := snapS sg) (su := su) h), (fr_f37 (sg := snapS sg) (su := su) h), (fr_f47 (sg := snapS sg) (su := su) h), (fr_f44 (sg := snapS sg) (su := su) h), (fr_f49 (sg := snapS sg) (su := su) h), (fr_b1_10 (sg := snapS sg) (su := su) h), (fr_b1_11 (sg := snapS sg) (su := su) h), (fr_b1_12 (sg := snapS sg) (su := su) h), (fr_b1_13 (sg := snapS sg) (su := su) h), (fr_b1_16 (sg := snapS sg) (su := su) h), (fr_b1_17 (sg := snapS sg) (su := su) h), (fr_b1_22 (sg := snapS sg) (su := su) h), (fr_b1_18 (sg := snapS sg) (su := su) h), (fr_b1_19 (sg := snapS sg) (su := su) h), (fr_b2_0 (sg := snapS sg) (su := su) h), (fr_b2_1 (sg := snapS sg) (su := su) h)⟩
theorem back_ok {n m : Nat} {sg su : sT} (h0 : okS n sg) (h : okS m su) (hf : frm (snapS sg) su) : okS n (backS su) := ⟨(ok_ac (n := m) (sg := su) h), (ok_wo (n := m) (sg := su) h), (ok_tm (n := m) (sg := su) h), (ok_pr (n := m) (sg := su) h), (fun k => by show su.1 45 k ≤ _; rw [show su.1 45 = sg.1 14 from fr_f45 (sg := snapS sg) (su := su) hf]; exact ok_hi (n := n) (sg := sg) h0 k), (fun k => by show su.1 46 k ≤ _; rw [show su.1 46 = sg.1 15 from fr_f46 (sg := snapS sg) (su := su) hf]; exact ok_st (n := n) (sg := sg) h0 k), (ok_co (n := m) (sg := su) h), (ok_sz (n := m) (sg := su) h), (ok_ct (n := m) (sg := su) h), (ok_va (n := m) (sg := su) h), (ok_fs (n := m) (sg := su) h), (ok_fa (n := m) (sg := su) h), (fun k => by show su.1 40 k ≤ _; rw [show su.1 40 = sg.1 24 from fr_f40 (sg := snapS sg) (su := su) hf]; exact ok_tr (n := n) (sg := sg) h0 k), (fun k => by show su.1 41 k ≤ _; rw [show su.1 41 = sg.1 25 from fr_f41 (sg := snapS sg) (su := su) hf]; exact ok_ru (n := n) (sg := sg) h0 k), (fun k => by show su.1 42 k ≤ _; rw [show su.1 42 = sg.1 26 from fr_f42 (sg := snapS sg) (su := su) hf]; exact ok_bu (n := n) (sg := sg) h0 k), (fun k => by show su.1 43 k ≤ _; rw [show su.1 43 = sg.1 27 from fr_f43 (sg := snapS sg) (su := su) hf]; exact ok_ch (n := n) (sg := sg) h0 k), (ok_zc (n := m) (sg := su) h), (ok_zv (n := m) (sg := su) h), (ok_zf (n := m) (sg := su) h), (ok_za (n := m) (sg := su) h), (ok_zs (n := m) (sg := su) h), (fun k => by show su.1 39 k < _; rw [show su.1 39 = sg.1 35 from fr_f39 (sg := snapS sg) (su := su) hf]; exact ok_zo (n := n) (sg := sg) h0 k), (ok_zco (n := m) (sg := su) h), (ok_zsz (n := m) (sg := su) h), (ok_cl (n := m) (sg := su) h), (ok_qu (n := m) (sg := su) h), (ok_ps (n := m) (sg := su) h), (ok_fr (n := m) (sg := su) h), (ok_gp (n := m) (sg := su) h), (ok_ge (n := m) (sg := su) h), ⟨(by show su.1 0 7 ≤ 60; rw [show su.1 0 7 = sg.1 0 0 from fr_s7 (sg := snapS sg) (su := su) hf]; exact (ok_sc h0).1), (ok_sc h).2.1, (ok_sc h).2.2.1, (ok_sc h).2.2.2.1, (ok_sc h).2.2.2.2.1, (ok_sc h).2.2.2.2.2.1, (ok_sc h).2.2.2.2.2.2.1, (ok_sc h).2.2.2.2.2.2.2⟩⟩
theorem ahd_E (sg : sT) (t a : Nat) : eqE sg (ahdS sg t a) := back_E (fr_att _ _ _ _)
theorem dfr_E (sg : sT) (t a : Nat) : eqE sg (dfrS sg t a) := by
  unfold dfrS
  split
  · exact back_E (fr_38 (fr_att _ _ _ _))
  · exact back_E (fr_att _ _ _ _)
theorem gon_E (sg : sT) (t z : Nat) : eqE sg (gonS sg t z) := by
  unfold gonS
  split
  · exact eE_refl _
  · exact back_E (fr_15 _ _)
theorem bldF_E {sg : sT} {t a : Nat} (h : attB (snapS sg) t a = false) : eqE sg (bldS sg t a) := by
  unfold bldS
  rw [if_neg (by rw [h]; decide)]
  exact back_E (fr_att _ _ _ _)
theorem ahd_ok {n : Nat} {sg : sT} {t a : Nat} (h : okS n sg) (ht : t < 4) (ha : a < 14) (hr : ∀ c k, c ≤ a → (sg.1 33 c).testBit k = true → k < c) : okS n (ahdS sg t a) := back_ok h (attS_ok (snapS_ok h) ht ha hr) (fr_att _ _ _ _)
theorem cl38_ok {n : Nat} {sg : sT} (h : okS n sg) (i : Nat) : okS n (pR 38 (clnR sg i) sg) := ⟨(ok_ac (n := n) (sg := sg) h), (ok_wo (n := n) (sg := sg) h), (ok_tm (n := n) (sg := sg) h), (ok_pr (n := n) (sg := sg) h), (ok_hi (n := n) (sg := sg) h), (ok_st (n := n) (sg := sg) h), (ok_co (n := n) (sg := sg) h), (ok_sz (n := n) (sg := sg) h), (ok_ct (n := n) (sg := sg) h), (ok_va (n := n) (sg := sg) h), (ok_fs (n := n) (sg := sg) h), (ok_fa (n := n) (sg := sg) h), (ok_tr (n := n) (sg := sg) h), (ok_ru (n := n) (sg := sg) h), (ok_bu (n := n) (sg := sg) h), (ok_ch (n := n) (sg := sg) h), (ok_zc (n := n) (sg := sg) h), (ok_zv (n := n) (sg := sg) h), (ok_zf (n := n) (sg := sg) h), (ok_za (n := n) (sg := sg) h), (ok_zs (n := n) (sg := sg) h), (ok_zo (n := n) (sg := sg) h), (ok_zco (n := n) (sg := sg) h), (ok_zsz (n := n) (sg := sg) h), (clnA_b (zFi := sg.1 32) (zCt := sg.1 30) (zAc := sg.1 33) (zSe := sg.1 34) (zVa := sg.1 31) (ok_cl (n := n) (sg := sg) h) i), (ok_qu (n := n) (sg := sg) h), (ok_ps (n := n) (sg := sg) h), (ok_fr (n := n) (sg := sg) h), (ok_gp (n := n) (sg := sg) h), (ok_ge (n := n) (sg := sg) h), (ok_sc (n := n) (sg := sg) h)⟩
theorem dfr_ok {n : Nat} {sg : sT} {t a : Nat} (h : okS n sg) (ht : t < 4) (ha : a < 14) (hr : ∀ c k, c ≤ a → (sg.1 33 c).testBit k = true → k < c) : okS n (dfrS sg t a) := by
  have h1 := attS_ok (snapS_ok h) ht ha hr
  unfold dfrS
  split
  · exact back_ok h (cl38_ok h1 (a + 1)) (fr_38 (fr_att _ _ _ _))
  · exact back_ok h h1 (fr_att _ _ _ _)
theorem st15_ok {n : Nat} {sg : sT} {f : Nat → Nat} (h : okS n sg) (hf : ∀ k, f k ≤ 2) : okS n (pR 15 f sg) := ⟨(ok_ac (n := n) (sg := sg) h), (ok_wo (n := n) (sg := sg) h), (ok_tm (n := n) (sg := sg) h), (ok_pr (n := n) (sg := sg) h), (ok_hi (n := n) (sg := sg) h), hf, (ok_co (n := n) (sg := sg) h), (ok_sz (n := n) (sg := sg) h), (ok_ct (n := n) (sg := sg) h), (ok_va (n := n) (sg := sg) h), (ok_fs (n := n) (sg := sg) h), (ok_fa (n := n) (sg := sg) h), (ok_tr (n := n) (sg := sg) h), (ok_ru (n := n) (sg := sg) h), (ok_bu (n := n) (sg := sg) h), (ok_ch (n := n) (sg := sg) h), (ok_zc (n := n) (sg := sg) h), (ok_zv (n := n) (sg := sg) h), (ok_zf (n := n) (sg := sg) h), (ok_za (n := n) (sg := sg) h), (ok_zs (n := n) (sg := sg) h), (ok_zo (n := n) (sg := sg) h), (ok_zco (n := n) (sg := sg) h), (ok_zsz (n := n) (sg := sg) h), (ok_cl (n := n) (sg := sg) h), (ok_qu (n := n) (sg := sg) h), (ok_ps (n := n) (sg := sg) h), (ok_fr (n := n) (sg := sg) h), (ok_gp (n := n) (sg := sg) h), (ok_ge (n := n) (sg := sg) h), (ok_sc (n := n) (sg := sg) h)⟩
theorem gon_ok {n : Nat} {sg : sT} {t z : Nat} (h : okS n sg) : okS n (gonS sg t z) := by
  unfold gonS
  split
  · exact h
  · exact back_ok h (st15_ok (snapS_ok h) (roomS_b (ok_st (n := n) (sg := sg) h) _)) (fr_15 _ _)
theorem b49_ok {n : Nat} {sg : sT} {f : Nat → Nat} (h : okS n sg) : okS n (pR 49 f sg) := ⟨(ok_ac (n := n) (sg := sg) h), (ok_wo (n := n) (sg := sg) h), (ok_tm (n := n) (sg := sg) h), (ok_pr (n := n) (sg := sg) h), (ok_hi (n := n) (sg := sg) h), (ok_st (n := n) (sg := sg) h), (ok_co (n := n) (sg := sg) h), (ok_sz (n := n) (sg := sg) h), (ok_ct (n := n) (sg := sg) h), (ok_va (n := n) (sg := sg) h), (ok_fs (n := n) (sg := sg) h), (ok_fa (n := n) (sg := sg) h), (ok_tr (n := n) (sg := sg) h), (ok_ru (n := n) (sg := sg) h), (ok_bu (n := n) (sg := sg) h), (ok_ch (n := n) (sg := sg) h), (ok_zc (n := n) (sg := sg) h), (ok_zv (n := n) (sg := sg) h), (ok_zf (n := n) (sg := sg) h), (ok_za (n := n) (sg := sg) h), (ok_zs (n := n) (sg := sg) h), (ok_zo (n := n) (sg := sg) h), (ok_zco (n := n) (sg := sg) h), (ok_zsz (n := n) (sg := sg) h), (ok_cl (n := n) (sg := sg) h), (ok_qu (n := n) (sg := sg) h), (ok_ps (n := n) (sg := sg) h), (ok_fr (n := n) (sg := sg) h), (ok_gp (n := n) (sg := sg) h), (ok_ge (n := n) (sg := sg) h), (ok_sc (n := n) (sg := sg) h)⟩
theorem bld_ok {n : Nat} {sg : sT} {t a : Nat} (h : okS n sg) (ht : t < 4) (ha : a < 14) (hr : ∀ c k, c ≤ a → (sg.1 33 c).testBit k = true → k < c) : okS (n + 28) (bldS sg t a) := by
  have h1 := attS_ok (snapS_ok h) ht ha hr
  unfold bldS
  split
  · exact b49_ok h1
  · exact okS_le (back_ok h h1 (fr_att _ _ _ _)) (by omega)
