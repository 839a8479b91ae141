theorem vCell_c {M M' : MS} {c : Nat} (h23 : M'.2.1 23 = M.2.1 23) (h24 : M'.2.1 24 = M.2.1 24) (h30 : M'.2.1 30 = M.2.1 30) (d : Nat) : vCell M' c d = vCell M c d := by
  induction d with
  | zero => rfl
  | succ d ih => simp only [vCell, h23, h24, h30, ih]
theorem vCnt_c {M M' : MS} {c : Nat} (h25 : M'.2.1 25 = M.2.1 25) (h30 : M'.2.1 30 = M.2.1 30) (d : Nat) : vCnt M' c d = vCnt M c d := by
  induction d with
  | zero => rfl
  | succ d ih => simp only [vCnt, h25, h30, ih]
theorem cntK_c {M M' : MS} {k : Nat} (h11 : M'.2.1 11 = M.2.1 11) (h9 : M'.2.1 9 = M.2.1 9) (n : Nat) : cntK M' k n = cntK M k n := by
  induction n with
  | zero => rfl
  | succ n ih => simp only [cntK, h11, h9, ih]
theorem ahd_c {M M' : MS} {a b : Nat} (h : M'.2.1 10 = M.2.1 10) : ahd M' a b = ahd M a b := by
  simp only [ahd, h]
theorem RA_tr {C C' : CS} {M M' : MS} {t a : Nat} (hP : gP C' = gP C) (hQ : gQ C' = gQ C) (hM : ∀ k, 8 ≤ k → k ≤ 28 → M'.2.1 k = M.2.1 k) (i : Nat) (h : RA C M t a i) : RA C' M' t a i := by
  have e8 := hM 8 (by omega) (by omega); have e9 := hM 9 (by omega) (by omega); have e10 := hM 10 (by omega) (by omega); have e11 := hM 11 (by omega) (by omega); have e12 := hM 12 (by omega) (by omega); have e13 := hM 13 (by omega) (by omega); have e14 := hM 14 (by omega) (by omega); have e15 := hM 15 (by omega) (by omega); have e17 := hM 17 (by omega) (by omega); have e18 := hM 18 (by omega) (by omega); have e19 := hM 19 (by omega) (by omega); have e20 := hM 20 (by omega) (by omega); have e21 := hM 21 (by omega) (by omega); have e23 := hM 23 (by omega) (by omega); have e24 := hM 24 (by omega) (by omega); have e25 := hM 25 (by omega) (by omega); have e26 := hM 26 (by omega) (by omega); have e27 := hM 27 (by omega) (by omega); have e28 := hM 28 (by omega) (by omega)
  match i with
  | 0 => simp only [RA, hP, e8]; exact h
  | 1 => simp only [RA, hP, e9]; exact h
  | 2 => simp only [RA, hP, e10]; exact h
  | 3 => simp only [RA, hP, e19]; exact h
  | 4 => simp only [RA, hP, e11]; exact h
  | 5 => simp only [RA, hP, e20, e17, e18]; exact h
  | 6 => simp only [RA, BEG, hP, hQ, e11, e12, e13, e14, e15, e23, e24, e25, e26, e27, e28]; exact h
  | 7 => simp only [RA, DON, hQ, e11, e17, e23, e24, e25]; exact h
  | 8 => simp only [RA, hP, hQ, e11]; exact h
  | 9 => simp only [RA, hP]; exact h
  | 10 => simp only [RA, hP, e11, e21]; exact h
  | 11 => simp only [RA, e11, e19, e21]; exact h
  | 12 => simp only [RA, e11, e17]; exact h
  | k + 13 => trivial
/-- what a change of programs, limits, floors leaves alone -/
theorem RI_tr {C C' : CS} {M M' : MS} {n t u d e kp fa : Nat} (hC1 : C'.1 = C.1) (hM1 : M'.1 = M.1) (hM2 : M'.2.2 = M.2.2) (hN : gN C' = gN C) (hE : gE C' = gE C) (hP : gP C' = gP C) (hQ : gQ C' = gQ C) (hCr : ∀ k, 4 ≤ k → C'.2.1 k = C.2.1 k) (hMr : ∀ k, (k < 3 ∨ 7 ≤ k) → M'.2.1 k = M.2.1 k) (h : ∀ i, RI C M n t u d e kp fa i) (h6 : RI C' M' n t u d e kp fa 6) (h7 : RI C' M' n t u d e kp fa 7) (h8 : RI C' M' n t u d e kp fa 8) (h9 : RI C' M' n t u d e kp fa 9) : ∀ i, RI C' M' n t u d e kp fa i := by
  have e11 := hMr 11 (by omega); have e30 := hMr 30 (by omega); have e33 := hMr 33 (by omega); have e19 := hMr 19 (by omega); have e21 := hMr 21 (by omega)
  intro i
  match i with
  | 0 => simp only [RI, hC1, hM1, hN]; exact h 0
  | 1 => simp only [RI, hC1, hM1]; exact h 1
  | 2 => simp only [RI, hC1, hM1]; exact h 2
  | 3 => simp only [RI, hC1, hM1, hM2, hE]; exact h 3
  | 4 => simp only [RI, hC1, hM1]; exact h 4
  | 5 => simp only [RI, hC1, hM1]; exact h 5
  | 6 => exact h6
  | 7 => exact h7
  | 8 => exact h8
  | 9 => exact h9
  | 10 => simp only [RI, hCr 4 (by omega), hMr 1 (by omega), vCell_c (hMr 23 (by omega)) (hMr 24 (by omega)) e30]; exact h 10
  | 11 => simp only [RI, hCr 4 (by omega), hMr 2 (by omega), vCnt_c (hMr 25 (by omega)) e30]; exact h 11
  | 12 => exact fun a ha i => RA_tr hP hQ (fun k h1 h2 => hMr k (by omega)) i (h 12 a ha i)
  | 13 => simp only [RI, hCr 6 (by omega), ahd_c (hMr 10 (by omega))]; exact h 13
  | 14 => simp only [RI, hCr 7 (by omega), e30, e11]; exact h 14
  | 15 => simp only [RI, e30]; exact h 15
  | 16 => simp only [RI, e30, e11]; exact h 16
  | 17 => simp only [RI, e33, hCr 20 (by omega)]; exact h 17
  | 18 => simp only [RI, e11, hP, e33]; exact h 18
  | 19 => simp only [RI, e11, hP, e33]; exact h 19
  | 20 => simp only [RI, e11, hP, e33, e21]; exact h 20
  | 21 => simp only [RI, e11, hP, e33]; exact h 21
  | 22 => simp only [RI, e30, e11, hP]; exact h 22
  | 23 => simp only [RI, e30, e19]; exact h 23
  | 24 => simp only [RI, cntK_c e11 (hMr 9 (by omega))]; exact h 24
  | 25 => simp only [RI, e11, hMr 18 (by omega), e21, hMr 16 (by omega)]; exact h 25
  | k + 26 => trivial
/-- a number is below N, on both sides -/
theorem rng (x : Int32) (N : Nat) (hN : N < 2147483648) : (∃ k, k < N ∧ x = nI k ∧ f_X3_isBelow x (nI N) = 1 ∧ f_X4_in x 0 (nI N - 1) = 1) ∨ (f_X3_isBelow x (nI N) = 0 ∧ f_X4_in x 0 (nI N - 1) = 0) := by
  have hz : (0 : Int32).toInt = 0 := by decide
  have h1 : (1 : Int32).toInt = 1 := by decide
  have hNt : (nI N).toInt = N := nI_toInt (by omega)
  have hs := k_sub (x := nI N) (y := 1) (by omega) (by omega)
  by_cases h0 : x < 0
  · right
    refine ⟨by unfold f_X3_isBelow; rw [if_pos h0], ?_⟩
    unfold f_X4_in; rw [if_pos h0]
  · obtain ⟨k, hk, rfl⟩ := nI_of h0
    have hkt : (nI k).toInt = k := nI_toInt hk
    by_cases h2 : N ≤ k
    · right
      refine ⟨by unfold f_X3_isBelow; rw [if_neg h0, if_pos (np_ h2 (by omega) (by omega))], ?_⟩
      unfold f_X4_in
      rw [if_neg h0, if_pos (Int32.lt_iff_toInt_lt.mpr (by omega))]
    · left
      refine ⟨k, by omega, rfl, by unfold f_X3_isBelow; rw [if_neg h0, if_neg (nn h2 (by omega) (by omega))], ?_⟩
      unfold f_X4_in
      rw [if_neg h0, if_neg (fun q => by have := k_lt q; omega)]
theorem i10 : ¬ ((1 : Int32) = 0) := by decide
theorem RLaw_mono {j : Nat} {C : CS} {M : MS} (h : RLaw j C M) : RLaw (j + 1) C M := by
  obtain ⟨n, t, d, e, kp, fa, h1, h2⟩ := h
  exact ⟨n, t, d, e, kp, fa, by omega, h2⟩
theorem s_program (j : Nat) (C : CS) (M : MS) (x : Int32) (hR : RLaw j C M) : ∃ (q1 : Int32) (C1 : CS) (q2 : Int32) (M1 : MS), f_X3_program x C = some (q1, C1) ∧ f_X4_program x M = some (q2, M1) ∧ RLaw (j + 1) C1 M1 ∧ q1 = q2 := by
  unfold f_X3_program f_X4_program f_X4_isProgram
  rw [show (7 : Int32) = nI 8 - 1 from by decide, n8]
  rcases rng x 8 (by omega) with ⟨k, hk, rfl, e1, e2⟩ | ⟨e1, e2⟩
  · rw [e1, e2, if_neg i10, if_neg i10, if_pos (ck k 8 (by omega)), if_pos (ck k 8 (by omega)), nc k (by omega), k_ls, k_ls]
    refine ⟨1, _, 1, _, rfl, rfl, ?_, rfl⟩
    obtain ⟨n, t, d, e, kp, fa, h1, h⟩ := hR
    refine ⟨n, t, d, e, kp, fa, by omega, RI_tr (C := C) (M := M) rfl rfl rfl rfl rfl rfl rfl (fun i hi => ?_) (fun i hi => ?_) h ?_ (h 7) (h 8) (h 9)⟩
    · rw [cA_21, if_neg (by omega)]
    · rw [mA_R, mR_get, if_neg (by omega)]
    · intro i hi
      show upd (C.2.1 1) k 0 i = upd (M.2.1 5) k 0 i ∧ ∃ l, l ≤ 12 ∧ upd (M.2.1 5) k 0 i = nI l
      rw [upd_get, upd_get]
      split
      · exact ⟨rfl, 0, by omega, rfl⟩
      · exact h 6 i hi
  · rw [e1, e2, if_pos rfl, if_pos rfl]
    exact ⟨0, C, 0, M, rfl, rfl, RLaw_mono hR, rfl⟩
theorem s_limit (j : Nat) (C : CS) (M : MS) (x y : Int32) (hR : RLaw j C M) : ∃ (q1 : Int32) (C1 : CS) (q2 : Int32) (M1 : MS), f_X3_limit x y C = some (q1, C1) ∧ f_X4_limit x y M = some (q2, M1) ∧ RLaw (j + 1) C1 M1 ∧ q1 = q2 := by
  unfold f_X3_limit f_X4_limit
  rw [show (3 : Int32) = nI 4 - 1 from by decide, show (4 : Int32) = nI 4 from rfl]
  rcases rng x 4 (by omega) with ⟨k, hk, rfl, e1, e2⟩ | ⟨e1, e2⟩
  · rw [e1, e2, if_neg i10, if_neg i10]
    by_cases y0 : y < 0
    · rw [if_pos y0, show f_X4_in y 0 9 = 0 from by unfold f_X4_in; rw [if_pos y0], if_pos rfl]
      exact ⟨0, C, 0, M, rfl, rfl, RLaw_mono hR, rfl⟩
    · rw [if_neg y0]
      by_cases y9 : y ≤ 9
      · obtain ⟨l, hl, rfl⟩ := nI_of y0
        have hl9 : l ≤ 9 := (nIle (a := l) (b := 9) (by omega) (by omega)).mp y9
        rw [if_pos y9, show f_X4_in (nI l) 0 9 = 1 from by unfold f_X4_in; rw [if_neg y0, if_neg (fun q => by have a := k_lt q; have b := k_le y9; omega)], if_neg i10, if_pos (ck k 4 (by omega)), if_pos (ck k 4 (by omega)), nc k (by omega), k_ls, k_ls]
        refine ⟨1, _, 1, _, rfl, rfl, ?_, rfl⟩
        obtain ⟨n, t, d, e, kp, fa, h1, h⟩ := hR
        refine ⟨n, t, d, e, kp, fa, by omega, RI_tr (C := C) (M := M) rfl rfl rfl rfl rfl rfl rfl (fun i hi => ?_) (fun i hi => ?_) h (h 6) (h 7) ?_ (h 9)⟩
        · rw [cA_21, if_neg (by omega)]
        · rw [mA_R, mR_get, if_neg (by omega)]
        · intro i hi
          show upd (C.2.1 2) k (nI l) i = upd (M.2.1 4) k (nI l) i ∧ ∃ l', l' ≤ 9 ∧ upd (M.2.1 4) k (nI l) i = nI l'
          rw [upd_get, upd_get]
          split
          · exact ⟨rfl, l, hl9, rfl⟩
          · exact h 8 i hi
      · rw [if_neg y9, show f_X4_in y 0 9 = 0 from by unfold f_X4_in; rw [if_neg y0, if_pos (Int32.lt_iff_toInt_lt.mpr (k_nle y9))], if_pos rfl]
        exact ⟨0, C, 0, M, rfl, rfl, RLaw_mono hR, rfl⟩
  · rw [e1, e2, if_pos rfl, if_pos rfl]
    exact ⟨0, C, 0, M, rfl, rfl, RLaw_mono hR, rfl⟩
theorem s_done (j : Nat) (C : CS) (M : MS) (x : Int32) (hR : RLaw j C M) : ∃ (q1 : Int32) (C1 : CS) (q2 : Int32) (M1 : MS), f_X3_done x C = some (q1, C1) ∧ f_X4_done x M = some (q2, M1) ∧ RLaw (j + 1) C1 M1 ∧ q1 = q2 := by
  obtain ⟨n, t, d, e, kp, fa, h1, h⟩ := id hR
  obtain ⟨a1, a2, a3⟩ : M.1 29 = nI d ∧ C.1 13 = nI d ∧ d ≤ n := h 2
  obtain ⟨-, -, -, b4⟩ : M.1 7 = nI n ∧ C.1 12 = nI n ∧ gN C = n ∧ n ≤ 80 := h 0
  unfold f_X3_done f_X4_done
  rw [a1, a2]
  rcases rng x d (by omega) with ⟨k, hk, rfl, e1, e2⟩ | ⟨e1, e2⟩
  · rw [e1, e2, if_neg i10, if_neg i10, if_pos (ck k 80 (by omega)), if_pos (ck k 80 (by omega)), nc k (by omega)]
    exact ⟨_, C, _, M, rfl, rfl, RLaw_mono hR, (h 14 k hk).1⟩
  · rw [e1, e2, if_pos rfl, if_pos rfl]
    exact ⟨_, C, _, M, rfl, rfl, RLaw_mono hR, rfl⟩
