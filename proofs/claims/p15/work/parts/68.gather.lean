/-- so many different acts in a state: no more than there are -/
theorem inj_le {M : MS} {h : Int32} (n : Nat) : ∀ (m : Nat) (g : Nat → Nat), (∀ i, i < m → g i < n ∧ M.2.1 11 (g i) = h) → (∀ i j, i < j → j < m → g i ≠ g j) → m ≤ cntS M h n := by
  induction n with
  | zero =>
    intro m g h1 _
    by_cases hm : m = 0
    · omega
    · have := (h1 0 (by omega)).1; omega
  | succ n ih =>
    intro m g h1 h2
    by_cases hs : ∃ i, i < m ∧ g i = n
    · obtain ⟨i0, hi0, e0⟩ := hs
      have e := ih (m - 1) (fun i => if i < i0 then g i else g (i + 1)) (fun i hi => by
          by_cases q : i < i0
          · have := h1 i (by omega); have hne := h2 i i0 q hi0
            simp only [if_pos q]; exact ⟨by omega, this.2⟩
          · have := h1 (i + 1) (by omega); have hne := h2 i0 (i + 1) (by omega) (by omega)
            simp only [if_neg q]; exact ⟨by omega, this.2⟩) (fun i j hij hj => by
          by_cases q1 : j < i0
          · simp only [if_pos q1, if_pos (show i < i0 by omega)]; exact h2 i j hij (by omega)
          · by_cases q2 : i < i0
            · simp only [if_neg q1, if_pos q2]; exact h2 i (j + 1) (by omega) (by omega)
            · simp only [if_neg q1, if_neg q2]; exact h2 (i + 1) (j + 1) (by omega) (by omega))
      simp only [cntS]
      rw [if_pos (by rw [← e0]; exact (h1 i0 hi0).2)]; omega
    · have e := ih m g (fun i hi => by
          have := h1 i hi
          refine ⟨?_, this.2⟩
          by_cases q : g i = n
          · exact absurd ⟨i, hi, q⟩ hs
          · omega) h2
      simp only [cntS]; omega
/-- at most 36 are begun -/
theorem begun_36 {C : CS} {M : MS} {n t u d e kp fa : Nat} (h : ∀ i, RI C M n t u d e kp fa i) : cntS M 1 n ≤ 36 := by
  have key : ∀ m, m ≤ n → cntS M 1 m ≤ cntK M 0 m + cntK M 1 m + cntK M 2 m + cntK M 3 m := by
    intro m
    induction m with
    | zero => intro _; exact Nat.le_refl _
    | succ m ih =>
      intro hm
      have ih := ih (by omega)
      obtain ⟨-, p, hp, ep⟩ := h 12 m (by omega) 1
      simp only [cntS, cntK]
      by_cases hs : M.2.1 11 m = 1
      · simp only [hs, ep, true_and, if_true]
        have h4 : p = 0 ∨ p = 1 ∨ p = 2 ∨ p = 3 := by omega
        rcases h4 with rfl | rfl | rfl | rfl <;> simp only [if_true] <;> omega
      · simp only [if_neg hs, hs, false_and, if_false]; omega
  have h0 := h 24 0 (by omega); have h1 := h 24 1 (by omega); have h2 := h 24 2 (by omega); have h3 := h 24 3 (by omega)
  have h0 : cntK M 0 n ≤ 9 := h0
  have h1 : cntK M 1 n ≤ 9 := h1
  have h2 : cntK M 2 n ≤ 9 := h2
  have h3 : cntK M 3 n ≤ 9 := h3
  have := key n (Nat.le_refl _)
  omega
