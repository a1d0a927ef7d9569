/-! pure: families of entries; what goes for room; counts -/
theorem and_ne0 {a b j : Nat} (h1 : a.testBit j = true) (h2 : b.testBit j = true) : ¬ a &&& b = 0 := by
  intro h
  have h3 : (a &&& b).testBit j = true := by rw [Nat.testBit_and, h1, h2]; rfl
  rw [h, Nat.zero_testBit] at h3
  exact absurd h3 (by decide)
theorem and_ex {a b : Nat} (h : ¬ a &&& b = 0) : ∃ j, a.testBit j = true ∧ b.testBit j = true := by
  obtain ⟨j, hj⟩ := Nat.exists_testBit_of_ne_zero h
  rw [Nat.testBit_and, Bool.and_eq_true] at hj
  exact ⟨j, hj⟩
theorem fam_ge {fs : Nat → Nat} {e k : Nat} : ∀ {n : Nat}, (famN fs e n).testBit k = true → e ≤ k ∧ k < e + 1 + n
  | 0, h => by
    have h1 : (2 ^ e).testBit k = true := h
    rw [Nat.testBit_two_pow] at h1
    have := of_decide_eq_true h1
    omega
  | n + 1, h => by
    rw [famN_s] at h
    split at h
    · have := fam_ge h; omega
    · rw [Nat.testBit_or, Bool.or_eq_true] at h
      rcases h with h | h
      · have := fam_ge h; omega
      · rw [Nat.testBit_two_pow] at h
        have := of_decide_eq_true h
        omega
theorem fam_up {fs : Nat → Nat} {e k n : Nat} (h : (famN fs e n).testBit k = true) : (famN fs e (n + 1)).testBit k = true := by
  rw [famN_s]
  split
  · exact h
  · rw [Nat.testBit_or, h]; rfl
theorem fam_up2 {fs : Nat → Nat} {e k n : Nat} (h : (famN fs e n).testBit k = true) : ∀ m, (famN fs e (n + m)).testBit k = true
  | 0 => h
  | m + 1 => fam_up (fam_up2 h m)
theorem fam_self {fs : Nat → Nat} {e : Nat} (n : Nat) : (famN fs e n).testBit e = true := by
  have h : (famN fs e 0).testBit e = true := Nat.testBit_two_pow_self
  have h2 := fam_up2 h n
  rw [Nat.zero_add] at h2
  exact h2
theorem fam_cut {fs : Nat → Nat} {e k i : Nat} (hk : k < e + 1 + i) : ∀ m, (famN fs e (i + m)).testBit k = true → (famN fs e i).testBit k = true
  | 0, h => h
  | m + 1, h => by
    have h1 : (famN fs e (i + m + 1)).testBit k = true := h
    rw [famN_s] at h1
    split at h1
    · exact fam_cut hk m h1
    · rw [Nat.testBit_or, Bool.or_eq_true] at h1
      rcases h1 with h1 | h1
      · exact fam_cut hk m h1
      · rw [Nat.testBit_two_pow] at h1
        have := of_decide_eq_true h1
        omega
theorem fam_closed {fs : Nat → Nat} {e m j N : Nat} (hem : e < m) (hm : m < e + 1 + N) (hj : j < m) (h1 : (fs m).testBit j = true) (h2 : (famN fs e N).testBit j = true) : (famN fs e N).testBit m = true := by
  have eN : N = (m - (e + 1)) + (N - (m - (e + 1))) := by omega
  have em : m = e + 1 + (m - (e + 1)) := by omega
  rw [eN] at h2
  have h3 : (famN fs e (m - (e + 1))).testBit j = true := fam_cut (by omega) _ h2
  have h4 : (famN fs e (m - (e + 1) + 1)).testBit m = true := by
    rw [famN_s, ← em, if_neg (and_ne0 h1 h3), Nat.testBit_or, Nat.testBit_two_pow_self, Bool.or_true]
  have h5 := fam_up2 h4 (N - (m - (e + 1)) - 1)
  rw [show m - (e + 1) + 1 + (N - (m - (e + 1)) - 1) = N by omega] at h5
  exact h5
theorem fam_anc {fs mu : Nat → Nat} {e M : Nat} (h : ∀ m j, m < M → (fs m).testBit j = true → mu j < mu m) : ∀ n, e + 1 + n ≤ M → ∀ m, (famN fs e n).testBit m = true → m = e ∨ mu e < mu m
  | 0, _, m, hm => by
    have h1 : (2 ^ e).testBit m = true := hm
    rw [Nat.testBit_two_pow] at h1
    exact Or.inl (of_decide_eq_true h1).symm
  | n + 1, hn, m, hm => by
    have ih := fam_anc (e := e) h n (by omega)
    rw [famN_s] at hm
    split at hm
    · exact ih m hm
    · rename_i q
      rw [Nat.testBit_or, Bool.or_eq_true] at hm
      rcases hm with hm | hm
      · exact ih m hm
      · rw [Nat.testBit_two_pow] at hm
        have em : e + 1 + n = m := of_decide_eq_true hm
        obtain ⟨j, hj1, hj2⟩ := and_ex q
        rw [em] at hj1
        have h1 := h m j (by omega) hj1
        rcases ih j hj2 with h2 | h2
        · subst h2; exact Or.inr h1
        · exact Or.inr (Nat.lt_trans h2 h1)
theorem sDf_bit (a b k : Nat) : (sDf a b).testBit k = (a.testBit k && !b.testBit k) := by
  unfold sDf
  rw [Nat.testBit_xor, Nat.testBit_and]
  cases a.testBit k <;> cases b.testBit k <;> rfl
theorem off_bit (fs : Nat → Nat) (e n k : Nat) : (offN fs e n ||| 2 ^ e).testBit k = (famN fs e (n - (e + 1))).testBit k := by
  unfold offN
  rw [Nat.testBit_or, sDf_bit, Nat.testBit_two_pow]
  by_cases q : e = k
  · subst q; rw [fam_self, decide_eq_true rfl]; rfl
  · rw [decide_eq_false q]; cases (famN fs e (n - (e + 1))).testBit k <;> rfl
theorem off_bit2 (fs : Nat → Nat) (e n k : Nat) (q : k ≠ e) : (offN fs e n).testBit k = (famN fs e (n - (e + 1))).testBit k := by
  unfold offN
  rw [sDf_bit, Nat.testBit_two_pow, decide_eq_false (fun z => q z.symm)]
  cases (famN fs e (n - (e + 1))).testBit k <;> rfl
/-- what goes: of what was kept -/
def goR (st su : Nat → Nat) : Prop := ∀ k, su k = st k ∨ (st k = 0 ∧ su k = 1)
theorem goR_refl (st : Nat → Nat) : goR st st := fun _ => Or.inl rfl
theorem goR_trans {a b c : Nat → Nat} (h : goR a b) (h2 : goR b c) : goR a c := fun k => by
  rcases h k with h | h <;> rcases h2 k with h2 | h2
  · exact Or.inl (h2.trans h)
  · exact Or.inr ⟨h.symm.trans h2.1, h2.2⟩
  · exact Or.inr ⟨h.1, h2.trans h.2⟩
  · rw [h.2] at h2; exact absurd h2.1 (by decide)
theorem goR_2 {a b : Nat → Nat} (h : goR a b) (k : Nat) : b k = 2 ↔ a k = 2 := by
  rcases h k with h | h
  · rw [h]
  · rw [h.1, h.2]; decide
theorem goR_0 {a b : Nat → Nat} (h : goR a b) {k : Nat} (hb : b k = 0) : a k = 0 := by
  rcases h k with h | h
  · rw [← h]; exact hb
  · exact h.1
theorem goR_drop (ac : Nat → Nat) (a : Nat) (st : Nat → Nat) (n : Nat) : goR st (dropN ac a st n) := fun k => by
  unfold dropN
  by_cases q : k < n ∧ ac k = a ∧ st k = 0
  · rw [if_pos q]; exact Or.inr ⟨q.2.2, rfl⟩
  · rw [if_neg q]; exact Or.inl rfl
theorem used_mono {tm st su sz : Nat → Nat} {o : Nat} : ∀ {n : Nat}, (∀ k, k < n → su k = 0 → st k = 0) → usedN tm su sz o n ≤ usedN tm st sz o n
  | 0, _ => Nat.le_refl _
  | n + 1, h => by
    have ih := used_mono (tm := tm) (sz := sz) (o := o) (n := n) (fun k hk => h k (by omega))
    have h1 := h n (by omega)
    rw [usedN_s, usedN_s]
    by_cases q : tm n = o ∧ su n = 0
    · rw [if_pos q, if_pos ⟨q.1, h1 q.2⟩]; omega
    · rw [if_neg q]; omega
theorem lea_0 {tm st sz co hi : Nat → Nat} {o : Nat} : ∀ {n : Nat}, leaN tm st sz co hi o n = 0 → ∀ k, k < n → ¬ (tm k = o ∧ st k = 0)
  | 0, _, k, hk => absurd hk (Nat.not_lt_zero k)
  | n + 1, h, k, hk => by
    rw [leaN_s] at h
    by_cases q : (tm n = o ∧ st n = 0) ∧ (leaN tm st sz co hi o n = 0 ∨ worN (co n) (hi n) (sz n) < worN (co (leaN tm st sz co hi o n - 1)) (hi (leaN tm st sz co hi o n - 1)) (sz (leaN tm st sz co hi o n - 1)))
    · rw [if_pos q] at h; omega
    · rw [if_neg q] at h
      by_cases e : k = n
      · subst e; exact fun z => q ⟨z, Or.inl h⟩
      · exact lea_0 h k (by omega)
theorem lea_1 {tm st sz co hi : Nat → Nat} {o : Nat} : ∀ {n : Nat}, ¬ leaN tm st sz co hi o n = 0 → tm (leaN tm st sz co hi o n - 1) = o ∧ st (leaN tm st sz co hi o n - 1) = 0
  | 0, h => absurd rfl h
  | n + 1, h => by
    rw [leaN_s] at h ⊢
    by_cases q : (tm n = o ∧ st n = 0) ∧ (leaN tm st sz co hi o n = 0 ∨ worN (co n) (hi n) (sz n) < worN (co (leaN tm st sz co hi o n - 1)) (hi (leaN tm st sz co hi o n - 1)) (sz (leaN tm st sz co hi o n - 1)))
    · rw [if_pos q]; exact q.1
    · rw [if_neg q] at h ⊢
      exact lea_1 h
theorem used_0 {tm st sz : Nat → Nat} {o : Nat} : ∀ {n : Nat}, (∀ k, k < n → ¬ (tm k = o ∧ st k = 0)) → usedN tm st sz o n = 0
  | 0, _ => rfl
  | n + 1, h => by rw [usedN_s, if_neg (h n (by omega)), used_0 (fun k hk => h k (by omega))]
theorem kept_le (tm st : Nat → Nat) (o : Nat) : ∀ n, keptN tm st o n ≤ n
  | 0 => Nat.le_refl _
  | n + 1 => by
    have ih := kept_le tm st o n
    rw [keptN_s]
    split <;> omega
theorem kept_0 {tm st : Nat → Nat} {o : Nat} : ∀ {n : Nat}, keptN tm st o n = 0 → ∀ k, k < n → ¬ (tm k = o ∧ st k = 0)
  | 0, _, k, hk => absurd hk (Nat.not_lt_zero k)
  | n + 1, h, k, hk => by
    rw [keptN_s] at h
    by_cases q : tm n = o ∧ st n = 0
    · rw [if_pos q] at h; omega
    · rw [if_neg q] at h
      by_cases e : k = n
      · subst e; exact q
      · exact kept_0 (by omega) k (by omega)
theorem kept_out {tm st : Nat → Nat} {o i v : Nat} : ∀ {n : Nat}, n ≤ i → keptN tm (sU st i v) o n = keptN tm st o n
  | 0, _ => rfl
  | n + 1, h => by rw [keptN_s, keptN_s, kept_out (by omega), sU_n _ _ (show n ≠ i by omega)]
theorem kept_go {tm st : Nat → Nat} {o i : Nat} (h1 : tm i = o) (h2 : st i = 0) : ∀ {n : Nat}, i < n → keptN tm (sU st i 1) o n + 1 = keptN tm st o n
  | 0, h => absurd h (Nat.not_lt_zero _)
  | n + 1, h => by
    rw [keptN_s, keptN_s]
    by_cases e : i = n
    · subst e
      rw [kept_out (Nat.le_refl _), sU_s, if_neg (by omega), if_pos ⟨h1, h2⟩]
    · have ih := kept_go (o := o) h1 h2 (n := n) (by omega)
      rw [sU_n _ _ (show n ≠ i by omega)]
      omega
theorem ins_out {st : Nat → Nat} {w i v : Nat} : ∀ {n : Nat}, n ≤ i → insN (sU st i v) w n = insN st w n
  | 0, _ => rfl
  | n + 1, h => by rw [insN_s, insN_s, ins_out (by omega), sU_n _ _ (show n ≠ i by omega)]
theorem ins_go {st : Nat → Nat} {i : Nat} (h2 : st i = 0) : ∀ {n : Nat}, i < n → insN (sU st i 1) 1 n = insN st 1 n + 1
  | 0, h => absurd h (Nat.not_lt_zero _)
  | n + 1, h => by
    rw [insN_s, insN_s]
    by_cases e : i = n
    · subst e
      rw [ins_out (Nat.le_refl _), sU_s, if_pos rfl, if_neg (by omega)]
    · have ih := ins_go h2 (n := n) (by omega)
      rw [sU_n _ _ (show n ≠ i by omega)]
      omega
section FAMR
variable {tm st sz co hi : Nat → Nat} {o n : Nat} {rm : Int}
theorem roomK_g : ∀ i, roomK tm st sz co hi o n rm i ≤ i ∧ ∀ j, j < roomK tm st sz co hi o n rm i → roomG tm st sz co hi o n rm j
  | 0 => ⟨Nat.le_refl _, fun j hj => absurd hj (Nat.not_lt_zero j)⟩
  | i + 1 => by
    have ih := roomK_g i
    rw [roomK_s]
    by_cases q : roomK tm st sz co hi o n rm i = i ∧ roomG tm st sz co hi o n rm i
    · rw [if_pos q]
      refine ⟨Nat.le_refl _, fun j hj => ?_⟩
      by_cases e : j = i
      · subst e; exact q.2
      · exact ih.2 j (by rw [q.1]; omega)
    · rw [if_neg q]; exact ⟨by omega, ih.2⟩
theorem roomK_e : ∀ i, roomK tm st sz co hi o n rm i < i → ¬ roomG tm st sz co hi o n rm (roomK tm st sz co hi o n rm i)
  | 0, h => absurd h (Nat.not_lt_zero _)
  | i + 1, h => by
    have hl := (roomK_g (tm := tm) (st := st) (sz := sz) (co := co) (hi := hi) (o := o) (n := n) (rm := rm) i).1
    rw [roomK_s] at h ⊢
    by_cases q : roomK tm st sz co hi o n rm i = i ∧ roomG tm st sz co hi o n rm i
    · rw [if_pos q] at h; omega
    · rw [if_neg q]
      by_cases r : roomK tm st sz co hi o n rm i < i
      · exact roomK_e i r
      · have e : roomK tm st sz co hi o n rm i = i := by omega
        rw [e]
        exact fun g => q ⟨e, g⟩
theorem room_step {i : Nat} (h : roomG tm st sz co hi o n rm i) : tm (leaN tm (roomS tm st sz co hi o n i) sz co hi o n - 1) = o ∧ roomS tm st sz co hi o n i (leaN tm (roomS tm st sz co hi o n i) sz co hi o n - 1) = 0 ∧ leaN tm (roomS tm st sz co hi o n i) sz co hi o n - 1 < n := by
  have h1 := lea_1 h.2
  have h2 := leaN_le tm (roomS tm st sz co hi o n i) sz co hi o n
  have h3 := h.2
  exact ⟨h1.1, h1.2, by omega⟩
theorem room_cnt : ∀ i, (∀ j, j < i → roomG tm st sz co hi o n rm j) → goR st (roomS tm st sz co hi o n i) ∧ keptN tm (roomS tm st sz co hi o n i) o n + i = keptN tm st o n ∧ insN (roomS tm st sz co hi o n i) 1 n = insN st 1 n + i
  | 0, _ => ⟨goR_refl _, rfl, rfl⟩
  | i + 1, h => by
    obtain ⟨h1, h2, h3⟩ := room_cnt i (fun j hj => h j (by omega))
    obtain ⟨g1, g2, g3⟩ := room_step (h i (by omega))
    refine ⟨goR_trans h1 (fun k => ?_), ?_, ?_⟩
    · show sU (roomS tm st sz co hi o n i) (leaN tm (roomS tm st sz co hi o n i) sz co hi o n - 1) 1 k = _ ∨ _ ∧ sU (roomS tm st sz co hi o n i) (leaN tm (roomS tm st sz co hi o n i) sz co hi o n - 1) 1 k = 1
      by_cases e : k = leaN tm (roomS tm st sz co hi o n i) sz co hi o n - 1
      · rw [e, sU_s]; exact Or.inr ⟨g2, rfl⟩
      · rw [sU_n _ _ e]; exact Or.inl rfl
    · have h4 : keptN tm (roomS tm st sz co hi o n (i + 1)) o n + 1 = keptN tm (roomS tm st sz co hi o n i) o n := kept_go g1 g2 g3
      omega
    · have h4 : insN (roomS tm st sz co hi o n (i + 1)) 1 n = insN (roomS tm st sz co hi o n i) 1 n + 1 := ins_go g2 g3
      omega
theorem room_all (i : Nat) : goR st (roomS tm st sz co hi o n (roomK tm st sz co hi o n rm i)) ∧ keptN tm (roomS tm st sz co hi o n (roomK tm st sz co hi o n rm i)) o n + roomK tm st sz co hi o n rm i = keptN tm st o n ∧ insN (roomS tm st sz co hi o n (roomK tm st sz co hi o n rm i)) 1 n = insN st 1 n + roomK tm st sz co hi o n rm i :=
  room_cnt _ (roomK_g i).2
theorem room_end (hr : 0 ≤ rm) (hn : n ≤ 60) : ((usedN tm (roomS tm st sz co hi o n (roomK tm st sz co hi o n rm 60)) sz o n : Nat) : Int) ≤ rm := by
  by_cases q : roomK tm st sz co hi o n rm 60 < 60
  · have h1 := roomK_e 60 q
    by_cases r : rm < ((usedN tm (roomS tm st sz co hi o n (roomK tm st sz co hi o n rm 60)) sz o n : Nat) : Int)
    · by_cases v : leaN tm (roomS tm st sz co hi o n (roomK tm st sz co hi o n rm 60)) sz co hi o n = 0
      · rw [used_0 (lea_0 v)]; exact hr
      · exact absurd ⟨r, v⟩ h1
    · omega
  · have h1 := (room_all (tm := tm) (st := st) (sz := sz) (co := co) (hi := hi) (o := o) (n := n) (rm := rm) 60).2.1
    have h2 := kept_le tm st o n
    rw [used_0 (kept_0 (by omega))]
    exact hr
theorem room_zero (hr : 0 ≤ rm) : roomK tm st sz co hi o n rm 60 = 0 ↔ ((usedN tm st sz o n : Nat) : Int) ≤ rm := by
  constructor
  · intro h
    have h1 := roomK_e (tm := tm) (st := st) (sz := sz) (co := co) (hi := hi) (o := o) (n := n) (rm := rm) 60 (by omega)
    rw [h] at h1
    by_cases r : rm < ((usedN tm st sz o n : Nat) : Int)
    · by_cases v : leaN tm st sz co hi o n = 0
      · rw [used_0 (lea_0 v)]; exact hr
      · exact absurd ⟨r, v⟩ h1
    · omega
  · intro h
    refine roomK_stop (i := 0) rfl (fun g => ?_) 60 (Nat.zero_le _)
    have h1 : rm < ((usedN tm st sz o n : Nat) : Int) := g.1
    omega
end FAMR
theorem sum_add (f g : Nat → Nat) : ∀ n, sumN (fun a => f a + g a) n = sumN f n + sumN g n
  | 0 => rfl
  | n + 1 => by
    have ih := sum_add f g n
    rw [sumN_s, sumN_s, sumN_s, ih]
    omega
theorem sum_one {P : Prop} [Decidable P] {c : Nat} : ∀ {n : Nat}, sumN (fun a => if P ∧ (2 ^ a).testBit c = true then 1 else 0) n = if P ∧ c < n then 1 else 0
  | 0 => by rw [if_neg (fun h => absurd h.2 (Nat.not_lt_zero c))]; rfl
  | n + 1 => by
    have ih := sum_one (P := P) (c := c) (n := n)
    rw [sumN_s, ih, Nat.testBit_two_pow]
    by_cases hP : P
    · by_cases e : n = c
      · subst e
        rw [if_neg (fun h => absurd h.2 (Nat.lt_irrefl n)), if_pos ⟨hP, decide_eq_true rfl⟩, if_pos ⟨hP, Nat.lt_succ_self n⟩]
      · rw [if_neg (show ¬ (P ∧ decide (n = c) = true) from fun h => e (of_decide_eq_true h.2))]
        by_cases r : c < n
        · rw [if_pos ⟨hP, r⟩, if_pos ⟨hP, by omega⟩]
        · rw [if_neg (fun h => r h.2), if_neg (fun h => r (by have := h.2; omega))]
    · rw [if_neg (fun h => hP h.1), if_neg (fun h => hP h.1), if_neg (fun h => hP h.1)]
theorem sum_kta {st ac : Nat → Nat} {A : Nat} : ∀ {n : Nat}, (∀ k, k < n → ac k < A) → sumN (fun a => ktaN st ac (2 ^ a) n) A = insN st 0 n
  | 0, _ => by
    have h : ∀ m, sumN (fun a => ktaN st ac (2 ^ a) 0) m = 0 := by
      intro m
      induction m with
      | zero => rfl
      | succ m ih => rw [sumN_s, ih]; rfl
    exact h A
  | n + 1, h => by
    have ih := sum_kta (st := st) (ac := ac) (A := A) (n := n) (fun k hk => h k (by omega))
    have e : sumN (fun a => ktaN st ac (2 ^ a) (n + 1)) A = sumN (fun a => ktaN st ac (2 ^ a) n + if st n = 0 ∧ (2 ^ a).testBit (ac n) = true then 1 else 0) A := rfl
    rw [e, sum_add, ih, sum_one, insN_s]
    by_cases q : st n = 0
    · rw [if_pos ⟨q, h n (by omega)⟩, if_pos q]
    · rw [if_neg (fun z => q z.1), if_neg q]
theorem kta_le (st ac : Nat → Nat) (S : Nat) : ∀ n, ktaN st ac S n ≤ insN st 0 n
  | 0 => Nat.le_refl _
  | n + 1 => by
    have ih := kta_le st ac S n
    rw [ktaN_s, insN_s]
    by_cases q : st n = 0
    · rw [if_pos q]; split <;> omega
    · rw [if_neg q, if_neg (fun z => q z.1)]; omega
theorem ins_le (st : Nat → Nat) (w : Nat) : ∀ n, insN st w n ≤ n
  | 0 => Nat.le_refl _
  | n + 1 => by
    have ih := ins_le st w n
    rw [insN_s]
    split <;> omega
theorem sum_upd {f : Nat → Nat} {w v : Nat} : ∀ {n : Nat}, sumN (sU f w (f w + v)) n = sumN f n + if w < n then v else 0
  | 0 => by rw [if_neg (Nat.not_lt_zero w)]; rfl
  | n + 1 => by
    have ih := sum_upd (f := f) (w := w) (v := v) (n := n)
    rw [sumN_s, sumN_s, ih]
    by_cases e : n = w
    · subst e
      rw [sU_s, if_neg (Nat.lt_irrefl n), if_pos (Nat.lt_succ_self n)]
      omega
    · rw [sU_n _ _ e]
      by_cases r : w < n
      · rw [if_pos r, if_pos (by omega)]; omega
      · rw [if_neg r, if_neg (by omega)]; omega
theorem sum_0 {f : Nat → Nat} : ∀ {n : Nat}, sumN f n = 0 → ∀ k, k < n → f k = 0
  | 0, _, k, hk => absurd hk (Nat.not_lt_zero k)
  | n + 1, h, k, hk => by
    rw [sumN_s] at h
    by_cases e : k = n
    · subst e; omega
    · exact sum_0 (n := n) (by omega) k (by omega)
theorem sum_mono {f g : Nat → Nat} (h : ∀ k, f k ≤ g k) : ∀ n, sumN f n ≤ sumN g n
  | 0 => Nat.le_refl _
  | n + 1 => by
    have ih := sum_mono h n
    have h1 := h n
    rw [sumN_s, sumN_s]
    omega
theorem ins_0 {st : Nat → Nat} {w : Nat} : ∀ {n : Nat}, (∀ k, k < n → st k ≠ w) → insN st w n = 0
  | 0, _ => rfl
  | n + 1, h => by rw [insN_s, if_neg (h n (by omega)), ins_0 (fun k hk => h k (by omega))]
