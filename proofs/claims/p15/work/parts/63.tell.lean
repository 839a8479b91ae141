theorem m_isAct {M : MS} {x : Int32} {n : Nat} (hn : M.1 7 = nI n) (h80 : n ≤ 80) : f_X4_isAct x M = some (f_X4_in x 0 (nI n - 1), M) := by
  unfold f_X4_isAct
  rw [hn]
  rcases rng x n (by omega) with ⟨k, _, _, _, e2⟩ | ⟨_, e2⟩
  · rw [e2, if_pos (by decide)]
  · rw [e2, if_pos (by decide)]
theorem s_register (j : Nat) (C : CS) (M : MS) (x : Int32) (hR : RLaw j C M) : ∃ (q1 : Int32) (C1 : CS) (q2 : Int32) (M1 : MS), f_X3_register x C = some (q1, C1) ∧ f_X4_register x M = some (q2, M1) ∧ RLaw (j + 1) C1 M1 ∧ q1 = q2 := by
  obtain ⟨n, t, d, e, kp, fa, h1, h⟩ := id hR
  obtain ⟨b1, b2, b3, b4⟩ : M.1 7 = nI n ∧ C.1 12 = nI n ∧ gN C = n ∧ n ≤ 80 := h 0
  unfold f_X3_register f_X4_register
  rw [m_isAct b1 b4, k_bs, b2]
  rcases rng x n (by omega) with ⟨k, hk, rfl, e1, e2⟩ | ⟨e1, e2⟩
  · rw [e1, e2, if_neg i10, if_neg i10, nc k (by omega), if_pos ⟨ck k 80 (by omega), by omega⟩, if_pos (ck k 80 (by omega))]
    have r4 : gP C k 12 = M.2.1 11 k := (h 12 k hk 4).1
    rw [r4]
    by_cases hs : M.2.1 11 k = 1
    · rw [if_pos hs, if_pos hs]
      obtain ⟨l, s, q, -, -, -, -, -, -, -, -, -, g, -⟩ := h 12 k hk 6 hs
      exact ⟨_, C, _, M, rfl, rfl, RLaw_mono hR, g⟩
    · rw [if_neg hs, if_neg hs]
      exact ⟨_, C, _, M, rfl, rfl, RLaw_mono hR, rfl⟩
  · rw [e1, e2, if_pos rfl, if_pos rfl]
    exact ⟨_, C, _, M, rfl, rfl, RLaw_mono hR, rfl⟩
theorem s_holds (j : Nat) (C : CS) (M : MS) (x y : Int32) (hR : RLaw j C M) : ∃ (q1 : Int32) (C1 : CS) (q2 : Int32) (M1 : MS), f_X3_holds x y C = some (q1, C1) ∧ f_X4_holds x y M = some (q2, M1) ∧ RLaw (j + 1) C1 M1 ∧ q1 = q2 := by
  obtain ⟨n, t, d, e, kp, fa, h1, h⟩ := id hR
  obtain ⟨b1, b2, b3, b4⟩ : M.1 7 = nI n ∧ C.1 12 = nI n ∧ gN C = n ∧ n ≤ 80 := h 0
  unfold f_X3_holds f_X4_holds
  rw [m_isAct b1 b4, k_bs, b2, show (23 : Int32) = nI 24 - 1 from by decide, show f_X3_isBelow y (24 : Int32) = f_X3_isBelow y (nI 24) from rfl]
  rcases rng x n (by omega) with ⟨k, hk, rfl, e1, e2⟩ | ⟨e1, e2⟩
  · rw [e1, e2, if_neg i10, if_neg i10]
    rcases rng y 24 (by omega) with ⟨c, hc, rfl, g1, g2⟩ | ⟨g1, g2⟩
    · rw [g1, g2, if_neg i10, if_neg i10, nc k (by omega), if_pos ⟨ck k 80 (by omega), by omega⟩, if_pos (ck k 80 (by omega))]
      have r4 : gP C k 12 = M.2.1 11 k := (h 12 k hk 4).1
      rw [r4]
      by_cases hs : M.2.1 11 k = 1
      · rw [if_pos hs, if_pos hs, if_pos (ck c 24 (by omega)), nc c (by omega), ix24, if_pos (ck (24 * k + c) 1920 (by omega)), nc (24 * k + c) (by omega)]
        obtain ⟨l, s, q, -, -, -, -, -, -, -, -, -, -, -, -, -, -, g, -⟩ := h 12 k hk 6 hs
        exact ⟨_, C, _, M, rfl, rfl, RLaw_mono hR, (g c hc).1⟩
      · rw [if_neg hs, if_neg hs]
        exact ⟨_, C, _, M, rfl, rfl, RLaw_mono hR, rfl⟩
    · rw [g1, g2, if_pos rfl, if_pos rfl]
      exact ⟨_, C, _, M, rfl, rfl, RLaw_mono hR, rfl⟩
  · rw [e1, e2, if_pos rfl, if_pos rfl]
    exact ⟨_, C, _, M, rfl, rfl, RLaw_mono hR, rfl⟩
/-- told: alike but for what = 5 -/
theorem s_told (j : Nat) (C : CS) (M : MS) (x y : Int32) (hR : RLaw j C M) : ∃ (q1 : Int32) (C1 : CS) (q2 : Int32) (M1 : MS), f_X3_told x y C = some (q1, C1) ∧ f_X4_told x y M = some (q2, M1) ∧ RLaw (j + 1) C1 M1 ∧ (y.toInt ≠ 5 → q1 = q2) := by
  obtain ⟨n, t, d, e, kp, fa, h1, h⟩ := id hR
  obtain ⟨b1, b2, b3, b4⟩ : M.1 7 = nI n ∧ C.1 12 = nI n ∧ gN C = n ∧ n ≤ 80 := h 0
  unfold f_X3_told f_X4_told
  rw [m_isAct b1 b4, k_bs, b2]
  rcases rng x n (by omega) with ⟨k, hk, rfl, e1, e2⟩ | ⟨e1, e2⟩
  · rw [e1, e2, if_neg i10, if_neg i10, nc k (by omega), if_pos ⟨ck k 80 (by omega), by omega⟩, if_pos (ck k 80 (by omega))]
    have r0 : gP C k 0 = M.2.1 8 k := (h 12 k hk 0).1
    have r1 : gP C k 1 = M.2.1 9 k := (h 12 k hk 1).1
    have r2 : gP C k 2 = M.2.1 10 k := h 12 k hk 2
    have r3 : gP C k 3 = M.2.1 19 k := (h 12 k hk 3).1
    have r4 : gP C k 12 = M.2.1 11 k := (h 12 k hk 4).1
    have r5 : gP C k 16 = M.2.1 20 k ∧ gP C k 17 = M.2.1 17 k ∧ gP C k 19 = M.2.1 18 k := h 12 k hk 5
    have fin : ∀ s0 : Int32, (s0 ≠ 0 → gP C k 14 = M.2.1 14 k) → ∃ (q1 : Int32) (C1 : CS) (q2 : Int32) (M1 : MS), f_X3_told_33 y k s0 C = some (q1, C1) ∧ f_X4_told_25 (nI k) y s0 M = some (q2, M1) ∧ RLaw (j + 1) C1 M1 ∧ (y.toInt ≠ 5 → q1 = q2) := by
      intro s0 h14
      unfold f_X3_told_33 f_X4_told_25
      simp only [if_pos (ck k 80 (by omega)), nc k (by omega), r0, r1, r2, r3, r4, r5.1, r5.2.1, r5.2.2]
      by_cases y0 : y.toInt = 0
      · rw [if_pos y0, if_pos y0]; exact ⟨_, C, _, M, rfl, rfl, RLaw_mono hR, fun _ => rfl⟩
      rw [if_neg y0, if_neg y0]
      by_cases y1 : y.toInt = 1
      · rw [if_pos y1, if_pos y1]; exact ⟨_, C, _, M, rfl, rfl, RLaw_mono hR, fun _ => rfl⟩
      rw [if_neg y1, if_neg y1]
      by_cases y2 : y.toInt = 2
      · rw [if_pos y2, if_pos y2]; exact ⟨_, C, _, M, rfl, rfl, RLaw_mono hR, fun _ => rfl⟩
      rw [if_neg y2, if_neg y2]
      by_cases y3 : y.toInt = 3
      · rw [if_pos y3, if_pos y3]; exact ⟨_, C, _, M, rfl, rfl, RLaw_mono hR, fun _ => rfl⟩
      rw [if_neg y3, if_neg y3]
      by_cases y4 : y.toInt = 4
      · rw [if_pos y4, if_pos y4]
        by_cases hz : s0 = 0
        · rw [if_pos hz, if_pos hz]; exact ⟨_, C, _, M, rfl, rfl, RLaw_mono hR, fun _ => rfl⟩
        · rw [if_neg hz, if_neg hz]; exact ⟨_, C, _, M, rfl, rfl, RLaw_mono hR, fun _ => h14 hz⟩
      rw [if_neg y4, if_neg y4]
      by_cases y5 : y.toInt = 5
      · rw [if_pos y5, if_pos y5]
        by_cases hz : s0 = 0
        · rw [if_pos hz, if_pos hz]; exact ⟨_, C, _, M, rfl, rfl, RLaw_mono hR, fun _ => rfl⟩
        · rw [if_neg hz, if_neg hz]
          split <;> split <;> exact ⟨_, C, _, M, rfl, rfl, RLaw_mono hR, fun q => absurd y5 q⟩
      rw [if_neg y5, if_neg y5]
      by_cases y6 : y.toInt = 6
      · rw [if_pos y6, if_pos y6]; exact ⟨_, C, _, M, rfl, rfl, RLaw_mono hR, fun _ => rfl⟩
      rw [if_neg y6, if_neg y6]
      by_cases y7 : y.toInt = 7
      · rw [if_pos y7, if_pos y7]; exact ⟨_, C, _, M, rfl, rfl, RLaw_mono hR, fun _ => rfl⟩
      rw [if_neg y7, if_neg y7]
      by_cases y8 : y.toInt = 8
      · rw [if_pos y8, if_pos y8]; exact ⟨_, C, _, M, rfl, rfl, RLaw_mono hR, fun _ => rfl⟩
      rw [if_neg y8, if_neg y8]
      by_cases y9 : y.toInt = 9
      · rw [if_pos y9, if_pos y9]; exact ⟨_, C, _, M, rfl, rfl, RLaw_mono hR, fun _ => rfl⟩
      rw [if_neg y9, if_neg y9]; exact ⟨_, C, _, M, rfl, rfl, RLaw_mono hR, fun _ => rfl⟩
    rw [r4]
    by_cases hs : M.2.1 11 k = 1
    · rw [if_pos hs, if_pos hs]
      obtain ⟨l, s, q, -, -, -, -, g1, g2, -⟩ := h 12 k hk 6 hs
      exact fin 1 (fun _ => g2.trans g1.symm)
    · rw [if_neg hs, if_neg hs]
      exact fin 0 (fun q => absurd rfl q)
  · rw [e1, e2, if_pos rfl, if_pos rfl]
    exact ⟨_, C, _, M, rfl, rfl, RLaw_mono hR, fun _ => rfl⟩
theorem c_least_12 {C : CS} {M : MS} {n c : Nat} (hn80 : n ≤ 80) (hc : c < 8) (h12 : C.1 12 = nI n) (hN : gN C = n) (hs : ∀ a, a < n → gP C a 12 = M.2.1 11 a) (hb : ∀ a, a < n → M.2.1 11 a = 1 → gQ C a 8 c = M.2.1 26 (8 * a + c)) (k o : Nat) (v : Int32) (hk : n < k + o) (ho : o ≤ n) : f_X3_leastToCome_12 k (nI c) v (nI o) C = some (mSum M c (n - o) o v, C) := by
  induction k generalizing o v with
  | zero => omega
  | succ k ih =>
    rw [f_X3_leastToCome_12, h12]
    by_cases h : n ≤ o
    · rw [if_pos (np_ h (by omega) (by omega)), show n - o = 0 by omega]; rfl
    · rw [if_neg (nn h (by omega) (by omega)), nc o (by omega), if_pos ⟨ck o 80 (by omega), by omega⟩, hs o (by omega)]
      obtain ⟨d, hd⟩ : ∃ d, n - o = d + 1 := ⟨n - o - 1, by omega⟩
      rw [hd]
      by_cases h2 : M.2.1 11 o = 1
      · rw [if_pos h2, if_pos (ck c 8 (by omega)), nc c (by omega), f_X3_leastToCome_47, n1, nI_add, ih (o + 1) _ (by omega) (by omega), show n - (o + 1) = d by omega, hb o (by omega) h2]
        simp only [mSum, if_pos h2]
      · rw [if_neg h2, f_X3_leastToCome_47, n1, nI_add, ih (o + 1) _ (by omega) (by omega), show n - (o + 1) = d by omega]
        simp only [mSum, if_neg h2, Int32.add_zero]
theorem c_least {C : CS} {M : MS} {n t u d e kp fa c : Nat} (h : ∀ i, RI C M n t u d e kp fa i) (hc : c < 8) : f_X3_leastToCome (nI c) C = some (mSum M c n 0 (M.2.1 2 c), C) := by
  obtain ⟨b1, b2, b3, b4⟩ : M.1 7 = nI n ∧ C.1 12 = nI n ∧ gN C = n ∧ n ≤ 80 := h 0
  unfold f_X3_leastToCome
  rw [show (24 : Int32) + nI c = nI (24 + c) from nI_add 24 c, if_pos (ck (24 + c) 32 (by omega)), nc (24 + c) (by omega), (h 11 c hc).1]
  exact c_least_12 b4 hc b2 b3 (fun a ha => (h 12 a ha 4).1) (fun a ha hs => by
    obtain ⟨l, s, q, -, -, -, -, -, -, -, -, -, -, -, -, -, -, -, g⟩ := h 12 a ha 6 hs
    exact (g c hc).2) 200 0 _ (by omega) (by omega)
theorem s_floor (j : Nat) (C : CS) (M : MS) (x y : Int32) (hR : RLaw j C M) : ∃ (q1 : Int32) (C1 : CS) (q2 : Int32) (M1 : MS), f_X3_floor x y C = some (q1, C1) ∧ f_X4_floor x y M = some (q2, M1) ∧ RLaw (j + 1) C1 M1 ∧ q1 = q2 := by
  obtain ⟨n, t, d, e, kp, fa, h1, h⟩ := id hR
  obtain ⟨b1, b2, b3, b4⟩ : M.1 7 = nI n ∧ C.1 12 = nI n ∧ gN C = n ∧ n ≤ 80 := h 0
  have no : ∃ (q1 : Int32) (C1 : CS) (q2 : Int32) (M1 : MS), some ((0 : Int32), C) = some (q1, C1) ∧ some ((0 : Int32), M) = some (q2, M1) ∧ RLaw (j + 1) C1 M1 ∧ q1 = q2 := ⟨_, C, _, M, rfl, rfl, RLaw_mono hR, rfl⟩
  unfold f_X3_floor f_X4_floor
  rw [show (7 : Int32) = nI 8 - 1 from by decide, show f_X3_isBelow x (8 : Int32) = f_X3_isBelow x (nI 8) from rfl]
  rcases rng x 8 (by omega) with ⟨k, hk, rfl, e1, e2⟩ | ⟨e1, e2⟩
  · rw [e1, e2, if_neg i10, if_neg i10]
    by_cases y1 : y < -1000
    · rw [if_pos y1, show f_X4_in y (-1000) 0 = 0 from by unfold f_X4_in; rw [if_pos y1], if_pos rfl]; exact no
    · rw [if_neg y1]
      by_cases y2 : y ≤ 0
      · rw [if_pos y2, show f_X4_in y (-1000) 0 = 1 from by unfold f_X4_in; rw [if_neg y1, if_neg (fun q => by have a := k_lt q; have b := k_le y2; omega)], if_neg i10, c_least h hk, m_least b1 b4 hk, k_bs, k_bs]
        by_cases y3 : y ≤ mSum M k n 0 (M.2.1 2 k)
        · rw [if_pos y3, if_pos y3, if_pos (ck k 8 (by omega)), if_pos (ck k 8 (by omega)), nc k (by omega), k_ls, k_ls]
          refine ⟨1, _, 1, _, rfl, rfl, ?_, rfl⟩
          refine ⟨n, t, d, e, kp, fa, by omega, RI_tr (C := C) (M := M) rfl rfl rfl rfl rfl rfl rfl (fun i hi => ?_) (fun i hi => ?_) h (h 6) (h 7) (h 8) ?_⟩
          · rw [cA_21, if_neg (by omega)]
          · rw [mA_R, mR_get, if_neg (by omega)]
          · intro i hi
            show upd (C.2.1 3) k y i = upd (M.2.1 3) k y i
            rw [upd_get, upd_get]
            split
            · rfl
            · exact h 9 i hi
        · rw [if_neg y3, if_neg y3]; exact no
      · rw [if_neg y2, show f_X4_in y (-1000) 0 = 0 from by unfold f_X4_in; rw [if_neg y1, if_pos (Int32.lt_iff_toInt_lt.mpr (k_nle y2))], if_pos rfl]; exact no
  · rw [e1, e2, if_pos rfl, if_pos rfl]; exact no
