/-- how many of the first n acts are in the state h -/
def cntS (M : MS) (h : Int32) : Nat → Nat
  | 0 => 0
  | n + 1 => cntS M h n + if M.2.1 11 n = h then 1 else 0
theorem cntS_le (M : MS) (h : Int32) (n : Nat) : cntS M h n ≤ n := by
  induction n with
  | zero => exact Nat.le_refl _
  | succ n ih => simp only [cntS]; split <;> omega
theorem m_count_4 {M : MS} {n : Nat} {h : Int32} (hn80 : n ≤ 80) (hn : M.1 7 = nI n) (k o : Nat) (hk : n < k + o) (ho : o ≤ n) : f_X4_countOf_4 k h (nI (cntS M h o)) (nI o) M = some (nI (cntS M h n), M) := by
  induction k generalizing o with
  | zero => omega
  | succ k ih =>
    rw [f_X4_countOf_4, hn]
    by_cases h0 : n ≤ o
    · rw [if_pos (np_ h0 (by omega) (by omega)), show o = n by omega]
    · rw [if_neg (nn h0 (by omega) (by omega)), if_pos (ck o 80 (by omega)), nc o (by omega)]
      have ih := ih (o + 1) (by omega) (by omega)
      by_cases h2 : M.2.1 11 o = h
      · rw [if_pos h2, f_X4_countOf_28, n1, nI_add, nI_add]
        simp only [cntS, if_pos h2] at ih; exact ih
      · rw [if_neg h2, f_X4_countOf_28, n1, nI_add, n0, nI_add]
        simp only [cntS, if_neg h2] at ih; exact ih
theorem m_countOf {M : MS} {n : Nat} {h : Int32} (hn80 : n ≤ 80) (hn : M.1 7 = nI n) : f_X4_countOf h M = some (nI (cntS M h n), M) := m_count_4 hn80 hn 200 0 (by omega) (by omega)
theorem c_count_4 {C : CS} {M : MS} {n : Nat} {h : Int32} (hn80 : n ≤ 80) (h12 : C.1 12 = nI n) (hN : gN C = n) (hs : ∀ a, a < n → gP C a 12 = M.2.1 11 a) (k o : Nat) (hk : n < k + o) (ho : o ≤ n) : f_X3_countState_4 k h (nI (cntS M h o)) (nI o) C = some (nI (cntS M h n), C) := by
  induction k generalizing o with
  | zero => omega
  | succ k ih =>
    rw [f_X3_countState_4, h12]
    by_cases h0 : n ≤ o
    · rw [if_pos (np_ h0 (by omega) (by omega)), show o = n by omega]
    · rw [if_neg (nn h0 (by omega) (by omega)), nc o (by omega), if_pos ⟨ck o 80 (by omega), by omega⟩, hs o (by omega)]
      have ih := ih (o + 1) (by omega) (by omega)
      by_cases h2 : M.2.1 11 o = h
      · rw [if_pos h2, f_X3_countState_28, n1, nI_add, nI_add]
        simp only [cntS, if_pos h2] at ih; exact ih
      · rw [if_neg h2, f_X3_countState_28, n1, nI_add]
        simp only [cntS, if_neg h2] at ih; exact ih
theorem c_countState {C : CS} {M : MS} {n : Nat} {h : Int32} (hn80 : n ≤ 80) (h12 : C.1 12 = nI n) (hN : gN C = n) (hs : ∀ a, a < n → gP C a 12 = M.2.1 11 a) : f_X3_countState h C = some (nI (cntS M h n), C) := c_count_4 hn80 h12 hN hs 200 0 (by omega) (by omega)
/-- as many are done or answered as the row of done acts has -/
theorem done_cnt {M : MS} (n : Nat) : ∀ (d : Nat) (g : Nat → Nat), (∀ i, i < d → g i < n ∧ (M.2.1 11 (g i) = 2 ∨ M.2.1 11 (g i) = 3)) → (∀ i j, i < j → j < d → g i ≠ g j) → (∀ b, b < n → (M.2.1 11 b = 2 ∨ M.2.1 11 b = 3) → ∃ i, i < d ∧ g i = b) → d = cntS M 2 n + cntS M 3 n := by
  induction n with
  | zero =>
    intro d g h1 _ _
    by_cases hd : d = 0
    · rw [hd]; rfl
    · have := (h1 0 (by omega)).1; omega
  | succ n ih =>
    intro d g h1 h2 h3
    by_cases hs : M.2.1 11 n = 2 ∨ M.2.1 11 n = 3
    · obtain ⟨i0, hi0, e0⟩ := h3 n (by omega) hs
      have e := ih (d - 1) (fun i => if i < i0 then g i else g (i + 1)) (fun i hi => by
          by_cases q : i < i0
          · have := h1 i (by omega); have hne := h2 i i0 q hi0
            simp only [if_pos q]; exact ⟨by omega, this.2⟩
          · have := h1 (i + 1) (by omega); have hne := h2 i0 (i + 1) (by omega) (by omega)
            simp only [if_neg q]; exact ⟨by omega, this.2⟩) (fun i j hij hj => by
          by_cases q1 : j < i0
          · simp only [if_pos q1, if_pos (show i < i0 by omega)]; exact h2 i j hij (by omega)
          · by_cases q2 : i < i0
            · simp only [if_neg q1, if_pos q2]; exact h2 i (j + 1) (by omega) (by omega)
            · simp only [if_neg q1, if_neg q2]; exact h2 (i + 1) (j + 1) (by omega) (by omega)) (fun b hb hbs => by
          obtain ⟨i, hi, e⟩ := h3 b (by omega) hbs
          by_cases q : i < i0
          · exact ⟨i, by omega, by simp only [if_pos q]; exact e⟩
          · have hne : i ≠ i0 := fun q2 => by subst q2; omega
            exact ⟨i - 1, by omega, by simp only [if_neg (show ¬ i - 1 < i0 by omega)]; rw [show i - 1 + 1 = i by omega]; exact e⟩)
      simp only [cntS]
      rcases hs with q | q
      · rw [if_pos q, if_neg (by rw [q]; decide)]; omega
      · rw [if_pos q, if_neg (by rw [q]; decide)]; omega
    · have e := ih d g (fun i hi => by
          have := h1 i hi
          refine ⟨?_, this.2⟩
          by_cases q : g i = n
          · rw [q] at this; exact absurd this.2 hs
          · omega) h2 (fun b hb hbs => h3 b (by omega) hbs)
      simp only [cntS]
      rw [if_neg (fun q => hs (Or.inl q)), if_neg (fun q => hs (Or.inr q))]; omega
theorem s_count (j : Nat) (C : CS) (M : MS) (x : Int32) (hR : RLaw j C M) : ∃ (q1 : Int32) (C1 : CS) (q2 : Int32) (M1 : MS), f_X3_count x C = some (q1, C1) ∧ f_X4_count x M = some (q2, M1) ∧ RLaw (j + 1) C1 M1 ∧ q1 = q2 := by
  obtain ⟨n, t, d, e, kp, fa, h1, h⟩ := id hR
  obtain ⟨b1, b2, b3, b4⟩ : M.1 7 = nI n ∧ C.1 12 = nI n ∧ gN C = n ∧ n ≤ 80 := h 0
  obtain ⟨t1, t2, t3⟩ : M.1 0 = nI t ∧ C.1 15 = nI t ∧ t ≤ 5000 := h 1
  obtain ⟨a1, a2, a3⟩ : M.1 29 = nI d ∧ C.1 13 = nI d ∧ d ≤ n := h 2
  obtain ⟨c1, c2, -⟩ : M.1 31 = nI e ∧ C.1 21 = nI e ∧ 4 * e ≤ M.2.2 ∧ lnOK M.2.2 ∧ e ≤ gE C ∧ isE (gE C) := h 3
  obtain ⟨d1, d2, -⟩ : M.1 32 = nI kp ∧ C.1 22 = nI kp ∧ kp ≤ e := h 4
  obtain ⟨f1, f2, f3, -⟩ : C.1 16 = M.1 34 ∧ C.1 17 = nI fa ∧ M.1 35 = nI fa ∧ fa ≤ 512 := h 5
  have hs : ∀ a, a < n → gP C a 12 = M.2.1 11 a := fun a ha => (h 12 a ha 4).1
  have ok : ∀ v w : Int32, v = w → ∃ (q1 : Int32) (C1 : CS) (q2 : Int32) (M1 : MS), some (v, C) = some (q1, C1) ∧ some (w, M) = some (q2, M1) ∧ RLaw (j + 1) C1 M1 ∧ q1 = q2 := fun v w q => ⟨v, C, w, M, rfl, rfl, RLaw_mono hR, q⟩
  unfold f_X3_count f_X4_count
  simp only [c_countState b4 b2 b3 hs, m_countOf b4 b1, k_bs]
  by_cases y0 : x.toInt = 0
  · rw [if_pos y0, if_pos y0]; exact ok _ _ (t2.trans t1.symm)
  rw [if_neg y0, if_neg y0]
  by_cases y1 : x.toInt = 1
  · rw [if_pos y1, if_pos y1]; exact ok _ _ (b2.trans b1.symm)
  rw [if_neg y1, if_neg y1]
  by_cases y2 : x.toInt = 2
  · rw [if_pos y2, if_pos y2]; exact ok _ _ (c2.trans c1.symm)
  rw [if_neg y2, if_neg y2]
  by_cases y3 : x.toInt = 3
  · rw [if_pos y3, if_pos y3]; exact ok _ _ (d2.trans d1.symm)
  rw [if_neg y3, if_neg y3]
  by_cases y4 : x.toInt = 4
  · rw [if_pos y4, if_pos y4]; exact ok _ _ rfl
  rw [if_neg y4, if_neg y4]
  by_cases y5 : x.toInt = 5
  · rw [if_pos y5, if_pos y5]; exact ok _ _ rfl
  rw [if_neg y5, if_neg y5]
  by_cases y6 : x.toInt = 6
  · rw [if_pos y6, if_pos y6]
    refine ok _ _ ?_
    have hd := done_cnt (M := M) n d (fun i => (M.2.1 30 i).toNatClampNeg) (fun i hi => by
        obtain ⟨-, b, hb, eb, hbs⟩ := h 14 i hi
        rw [eb, nc b (by omega)]; exact ⟨hb, hbs⟩) (fun i k hik hk q => by
        obtain ⟨-, b, hb, eb, -⟩ := h 14 i (by omega)
        obtain ⟨-, b', hb', eb', -⟩ := h 14 k hk
        have q : (M.2.1 30 i).toNatClampNeg = (M.2.1 30 k).toNatClampNeg := q
        rw [eb, eb', nc b (by omega), nc b' (by omega)] at q
        exact h 15 i k hik hk (by rw [eb, eb', q])) (fun b hb hbs => by
        obtain ⟨i, hi, eb⟩ := h 16 b hb hbs
        exact ⟨i, hi, by show (M.2.1 30 i).toNatClampNeg = b; rw [eb, nc b (by omega)]⟩)
    rw [a2, nI_add, ← hd]
  rw [if_neg y6, if_neg y6]
  by_cases y7 : x.toInt = 7
  · rw [if_pos y7, if_pos y7]; exact ok _ _ f1
  rw [if_neg y7, if_neg y7]
  by_cases y8 : x.toInt = 8
  · rw [if_pos y8, if_pos y8]; exact ok _ _ (f2.trans f3.symm)
  rw [if_neg y8, if_neg y8]; exact ok _ _ rfl
