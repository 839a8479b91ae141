/-- a change with an entry (not of one that is done) -/
theorem RIn_lg {C C' : CS} {M M' : MS} {n t u d e kp fa a k : Nat} {z : Int32} (h : RIn a C M n t u d e kp fa) (ha : a < n) (hC : CAL a C C' e (enc (nI k) (nI a) z (nI t))) (hM : MAL a M M' e (nI k) (nI a) z) (hk5 : k < 5) (hk2 : k ≠ 2) (hz : z = -1 ∨ ∃ c, c < 24 ∧ z = nI c) (hs : M.2.1 11 a = 0 ∨ M.2.1 11 a = 1) (hs' : (k ≠ 3 ∧ (M'.2.1 11 a = 0 ∨ M'.2.1 11 a = 1)) ∨ (k = 3 ∧ M'.2.1 11 a = 4 ∧ gP C' a 18 = nI e ∧ M'.2.1 21 a = 0)) (h24 : ∀ k, k < 4 → cntK M' k n ≤ 9) (hb : e < 512000) : RIn a C' M' n t u d (e + 1) kp fa := by
  obtain ⟨a1, a2, a3, a4, a5, a6, a7, a8, a9⟩ := hC
  obtain ⟨c1, c2, c3, c4, c5, c6, c7, c8, c9⟩ := hM
  obtain ⟨hr, hA⟩ := id h
  obtain ⟨t1, t2, t3⟩ : M.1 0 = nI t ∧ C.1 15 = nI t ∧ t ≤ 5000 := hr 1 (by omega)
  have n80 : n ≤ 80 := (hr 0 (by omega) : M.1 7 = nI n ∧ C.1 12 = nI n ∧ gN C = n ∧ n ≤ 80).2.2.2
  have st : ∀ x, x ≠ a → M'.2.1 11 x = M.2.1 11 x := fun x hx => c2 11 x (by omega) (noAt1 hx (by omega))
  have e21 : M'.2.1 21 = M.2.1 21 := by funext i; exact c2 21 i (by omega) (noAt (by omega))
  have n2 : M.2.1 11 a ≠ 2 := fun q => by rw [q] at hs; revert hs; decide
  have n4 : M.2.1 11 a ≠ 4 := fun q => by rw [q] at hs; revert hs; decide
  have n2' : M'.2.1 11 a ≠ 2 := fun q => by
    rcases hs' with ⟨-, q2 | q2⟩ | ⟨-, q2, -⟩ <;> (rw [q] at q2; exact absurd q2 (by decide))
  have o33 : ∀ i j, i < e → j < 4 → M'.2.1 33 (4 * i + j) = M.2.1 33 (4 * i + j) := fun i j hi hj => c3 _ (by omega)
  have o330 : ∀ i, i < e → M'.2.1 33 (4 * i) = M.2.1 33 (4 * i) := fun i hi => c3 _ (by omega)
  refine RIn_gen h ha hs (by rcases hs' with ⟨-, q | q⟩ | ⟨-, q, -⟩; exact Or.inl q; exact Or.inr (Or.inl q); exact Or.inr (Or.inr q)) a2 a9 c2 h24 (fun i hi => ?_) (fun i h1 h2 => ?_) (by omega) (by omega)
  · match i with
    | 0 => simp only [RI, a1, c1, a5]; exact hr 0 (by omega)
    | 1 => simp only [RI, a1, c1]; exact hr 1 (by omega)
    | 2 => simp only [RI, a1, c1]; exact hr 2 (by omega)
    | 3 => exact ⟨by rw [c1]; rfl, by rw [a1]; rfl, c8, c9, a7, a6⟩
    | 4 =>
      obtain ⟨g1, g2, g3⟩ : M.1 32 = nI kp ∧ C.1 22 = nI kp ∧ kp ≤ e := hr 4 (by omega)
      exact ⟨by rw [c1]; exact g1, by rw [a1]; exact g2, by omega⟩
    | 5 => simp only [RI, a1, c1]; exact hr 5 (by omega)
    | k + 6 => omega
  · have hh : i = 17 ∨ i = 18 ∨ i = 19 ∨ i = 20 ∨ i = 21 := by omega
    rcases hh with rfl | rfl | rfl | rfl | rfl
    · intro i hi
      by_cases ei : i = e
      · subst ei
        refine ⟨k, a, t, hk5, by omega, t3, c4, c5, by rw [c6]; exact hz, by rw [c7]; exact t1, ?_⟩
        rw [a4, c4, c5, c6, c7, t1]
      · obtain ⟨k1, x1, s1, g1, g2, g3, g4, g5, g6, g7, g8⟩ := hr 17 (by omega) i (by omega)
        have i3 : i < e := by omega
        rw [o330 i i3, o33 i 1 i3 (by omega), o33 i 2 i3 (by omega), o33 i 3 i3 (by omega), a3 i i3]
        exact ⟨k1, x1, s1, g1, g2, g3, g4, g5, g6, g7, g8⟩
    · intro b hbn q
      by_cases eb : b = a
      · subst eb; exact absurd q n2'
      · rw [st b eb] at q; rw [(a9 b eb).1]
        obtain ⟨i, g1, g2, g3, g4, g5⟩ := hr 18 (by omega) b hbn q
        exact ⟨i, g1, by omega, g3, by rw [o330 i g2]; exact g4, by rw [o33 i 1 g2 (by omega)]; exact g5⟩
    · intro j j1 j2 j3
      by_cases ej : j = e
      · subst ej
        rw [c4] at j3
        exact absurd ((nIeq (a := k) (b := 2) (by omega) (by omega)).mp j3) hk2
      · rw [o330 j (by omega)] at j3
        rw [o33 j 1 (by omega) (by omega)]
        obtain ⟨x, x1, x2, x3, x4⟩ := hr 19 (by omega) j j1 (by omega) j3
        have xa : x ≠ a := fun q => by subst q; exact n2 x3
        exact ⟨x, x1, x2, by rw [st x xa]; exact x3, by rw [(a9 x xa).1]; exact x4⟩
    · intro j j1 j2 j3
      by_cases ej : j = e
      · subst ej
        rw [c4] at j3
        have k3 := (nIeq (a := k) (b := 3) (by omega) (by omega)).mp j3
        rcases hs' with ⟨q, -⟩ | ⟨-, q1, q2, q3⟩
        · exact absurd k3 q
        · exact ⟨a, ha, c5, q1, q2, q3⟩
      · rw [o330 j (by omega)] at j3
        rw [o33 j 1 (by omega) (by omega)]
        obtain ⟨x, x1, x2, x3, x4, x5⟩ := hr 20 (by omega) j j1 (by omega) j3
        have xa : x ≠ a := fun q => by subst q; exact n4 x3
        exact ⟨x, x1, x2, by rw [st x xa]; exact x3, by rw [(a9 x xa).1]; exact x4, by rw [e21]; exact x5⟩
    · intro b hbn q
      by_cases eb : b = a
      · subst eb
        rcases hs' with ⟨-, q2 | q2⟩ | ⟨q0, q1, q2, q3⟩
        · rw [q2] at q; exact absurd q (by decide)
        · rw [q2] at q; exact absurd q (by decide)
        · right
          exact ⟨e, by omega, q2, fun _ => ⟨by rw [c4, q0]; rfl, c5⟩⟩
      · rw [st b eb] at q; rw [(a9 b eb).1]
        rcases hr 21 (by omega) b hbn q with g | ⟨i, g1, g2, g3⟩
        · exact Or.inl g
        · right
          refine ⟨i, by omega, g2, fun g4 => ?_⟩
          rw [o330 i g1, o33 i 1 g1 (by omega)]; exact g3 g4
theorem RA_u {C : CS} {M : MS} {u v a : Nat} (huv : u ≤ v) (i : Nat) (h : RA C M u a i) : RA C M v a i := by
  match i with
  | 0 => exact h
  | 1 => exact h
  | 2 => exact h
  | 3 => exact h
  | 4 => exact h
  | 5 => exact h
  | 6 => exact h
  | 7 => exact fun hs => ⟨(h hs).1, (h hs).2.1, by obtain ⟨s, g1, g2⟩ := (h hs).2.2; exact ⟨s, by omega, g2⟩⟩
  | 8 => exact h
  | 9 =>
    rcases h with q | ⟨s, g1, g2⟩
    · exact Or.inl q
    · exact Or.inr ⟨s, by omega, g2⟩
  | 10 => exact h
  | 11 => exact h
  | 12 => exact h
  | k + 13 => trivial
theorem RI_u {C : CS} {M : MS} {n t u v d e kp fa : Nat} (huv : u ≤ v) (h : ∀ i, RI C M n t u d e kp fa i) : ∀ i, RI C M n t v d e kp fa i := by
  intro i
  by_cases q : i = 12
  · subst q; exact fun a ha j => RA_u huv j (h 12 a ha j)
  · have := h i
    match i with
    | 0 => exact this
    | 1 => exact this
    | 2 => exact this
    | 3 => exact this
    | 4 => exact this
    | 5 => exact this
    | 6 => exact this
    | 7 => exact this
    | 8 => exact this
    | 9 => exact this
    | 10 => exact this
    | 11 => exact this
    | 12 => exact absurd rfl q
    | 13 => exact this
    | 14 => exact this
    | 15 => exact this
    | 16 => exact this
    | 17 => exact this
    | 18 => exact this
    | 19 => exact this
    | 20 => exact this
    | 21 => exact this
    | 22 => exact this
    | 23 => exact this
    | 24 => exact this
    | 25 => exact this
    | k + 26 => trivial
/-- what the relation doesn't speak of: the running row, the waits, the reference's own rows 36 to 38 -/
theorem RI_fr {C C' : CS} {M M' : MS} {n t u d e kp fa : Nat} (hC1 : ∀ k, k ≠ 14 → k ≠ 32 → C'.1 k = C.1 k) (hM1 : M'.1 = M.1) (hM2 : M'.2.2 = M.2.2) (hN : gN C' = gN C) (hE : gE C' = gE C) (hP : gP C' = gP C) (hQ : gQ C' = gQ C) (hCr : ∀ k, k ≠ 8 → k ≠ 9 → C'.2.1 k = C.2.1 k) (hMr : ∀ k, k ≤ 35 → M'.2.1 k = M.2.1 k) (h : ∀ i, RI C M n t u d e kp fa i) : ∀ i, RI C' M' n t u d e kp fa i := by
  have e11 := hMr 11 (by omega); have e30 := hMr 30 (by omega); have e33 := hMr 33 (by omega); have e19 := hMr 19 (by omega); have e21 := hMr 21 (by omega)
  intro i
  match i with
  | 0 => simp only [RI, hC1 12 (by omega) (by omega), hM1, hN]; exact h 0
  | 1 => simp only [RI, hC1 15 (by omega) (by omega), hM1]; exact h 1
  | 2 => simp only [RI, hC1 13 (by omega) (by omega), hM1]; exact h 2
  | 3 => simp only [RI, hC1 21 (by omega) (by omega), hM1, hM2, hE]; exact h 3
  | 4 => simp only [RI, hC1 22 (by omega) (by omega), hM1]; exact h 4
  | 5 => simp only [RI, hC1 16 (by omega) (by omega), hC1 17 (by omega) (by omega), hM1]; exact h 5
  | 6 => simp only [RI, hCr 1 (by omega) (by omega), hMr 5 (by omega)]; exact h 6
  | 7 => simp only [RI, hCr 0 (by omega) (by omega), hMr 6 (by omega)]; exact h 7
  | 8 => simp only [RI, hCr 2 (by omega) (by omega), hMr 4 (by omega)]; exact h 8
  | 9 => simp only [RI, hCr 3 (by omega) (by omega), hMr 3 (by omega)]; exact h 9
  | 10 => simp only [RI, hCr 4 (by omega) (by omega), hMr 1 (by omega), vCell_c (hMr 23 (by omega)) (hMr 24 (by omega)) e30]; exact h 10
  | 11 => simp only [RI, hCr 4 (by omega) (by omega), hMr 2 (by omega), vCnt_c (hMr 25 (by omega)) e30]; exact h 11
  | 12 => exact fun a ha i => RA_tr hP hQ (fun k h1 h2 => hMr k (by omega)) i (h 12 a ha i)
  | 13 => simp only [RI, hCr 6 (by omega) (by omega), ahd_c (hMr 10 (by omega))]; exact h 13
  | 14 => simp only [RI, hCr 7 (by omega) (by omega), e30, e11]; exact h 14
  | 15 => simp only [RI, e30]; exact h 15
  | 16 => simp only [RI, e30, e11]; exact h 16
  | 17 => simp only [RI, e33, hCr 20 (by omega) (by omega)]; exact h 17
  | 18 => simp only [RI, e11, hP, e33]; exact h 18
  | 19 => simp only [RI, e11, hP, e33]; exact h 19
  | 20 => simp only [RI, e11, hP, e33, e21]; exact h 20
  | 21 => simp only [RI, e11, hP, e33]; exact h 21
  | 22 => simp only [RI, e30, e11, hP]; exact h 22
  | 23 => simp only [RI, e30, e19]; exact h 23
  | 24 => simp only [RI, cntK_c e11 (hMr 9 (by omega))]; exact h 24
  | 25 => simp only [RI, e11, e21, hMr 18 (by omega), hMr 16 (by omega)]; exact h 25
  | k + 26 => trivial
