/-- of an act whose own places are as they were -/
theorem RA_tr2 {C C' : CS} {M M' : MS} {u a : Nat} (ha : a < 80) (hP : gP C' a = gP C a) (hQ : gQ C' a = gQ C a) (h11 : M'.2.1 11 = M.2.1 11) (hM : ∀ k, 8 ≤ k → k ≤ 28 → ∀ i, (i = a ∨ (k = 13 ∧ 12 * a ≤ i ∧ i < 12 * a + 12) ∨ (k = 27 ∧ 12 * a ≤ i ∧ i < 12 * a + 12) ∨ ((k = 23 ∨ k = 24) ∧ 24 * a ≤ i ∧ i < 24 * a + 24) ∨ ((k = 25 ∨ k = 26) ∧ 8 * a ≤ i ∧ i < 8 * a + 8)) → M'.2.1 k i = M.2.1 k i) (i : Nat) (h : RA C M u a i) : RA C' M' u a i := by
  have r : ∀ k, 8 ≤ k → k ≤ 28 → M'.2.1 k a = M.2.1 k a := fun k h1 h2 => hM k h1 h2 a (Or.inl rfl)
  match i with
  | 0 => simp only [RA, hP, r 8 (by omega) (by omega)]; exact h
  | 1 => simp only [RA, hP, r 9 (by omega) (by omega)]; exact h
  | 2 => simp only [RA, hP, r 10 (by omega) (by omega)]; exact h
  | 3 => simp only [RA, hP, r 19 (by omega) (by omega)]; exact h
  | 4 => simp only [RA, hP, h11]; exact h
  | 5 => simp only [RA, hP, r 20 (by omega) (by omega), r 17 (by omega) (by omega), r 18 (by omega) (by omega)]; exact h
  | 6 =>
    intro hs
    rw [h11] at hs
    obtain ⟨l, s, q, g1, g2, g3, g4, g5, g6, g7, g8, g9, g10, g11, g12, g13, g14, g15, g16⟩ := h hs
    refine ⟨l, s, q, g1, by rw [r 12 (by omega) (by omega)]; exact g2, by rw [hP]; exact g3, g4, by rw [r 14 (by omega) (by omega)]; exact g5, by rw [hP]; exact g6, g7, by rw [r 28 (by omega) (by omega)]; exact g8, by rw [hP]; exact g9, by rw [hP, r 15 (by omega) (by omega)]; exact g10, by rw [r 15 (by omega) (by omega)]; exact g11, by rw [r 15 (by omega) (by omega)]; exact g12, fun j hj => ?_, fun j hj => ?_, fun c hc => ?_, fun c hc => ?_⟩
    · rw [hQ, hM 13 (by omega) (by omega) (12 * a + j) (by omega)]; exact g13 j hj
    · rw [hQ, hM 27 (by omega) (by omega) (12 * a + j) (by omega)]; exact g14 j hj
    · rw [hQ, hM 23 (by omega) (by omega) (24 * a + c) (by omega), hM 24 (by omega) (by omega) (24 * a + c) (by omega)]; exact g15 c hc
    · rw [hQ, hM 25 (by omega) (by omega) (8 * a + c) (by omega), hM 26 (by omega) (by omega) (8 * a + c) (by omega)]; exact g16 c hc
  | 7 =>
    intro hs
    rw [h11] at hs
    obtain ⟨g1, g2, g3⟩ := h hs
    refine ⟨fun c hc => ?_, fun c hc => ?_, by rw [r 17 (by omega) (by omega)]; exact g3⟩
    · rw [hQ, hM 23 (by omega) (by omega) (24 * a + c) (by omega), hM 24 (by omega) (by omega) (24 * a + c) (by omega)]; exact g1 c hc
    · rw [hQ, hM 25 (by omega) (by omega) (8 * a + c) (by omega)]; exact g2 c hc
  | 8 => simp only [RA, hP, hQ, h11]; exact h
  | 9 => simp only [RA, hP]; exact h
  | 10 => simp only [RA, hP, h11, r 21 (by omega) (by omega)]; exact h
  | 11 => simp only [RA, h11, r 19 (by omega) (by omega), r 21 (by omega) (by omega)]; exact h
  | 12 => simp only [RA, h11, r 17 (by omega) (by omega)]; exact h
  | k + 13 => trivial
/-- an act more, on both sides -/
theorem R_new {C : CS} {M : MS} {n t u d e kp fa k' : Nat} {f : Nat → Nat} {x y z w : Int32} (hn : n < 80) (h : ∀ i, RI C M n t u d e kp fa i) (hx : ∃ p, p < 8 ∧ x = nI p) (hy : ∃ p, p < 4 ∧ y = nI p) (hw : w = -1 ∨ ∃ b, b < n ∧ w = nI b ∧ (M.2.1 11 b = 2 ∨ M.2.1 11 b = 3)) (hf1 : ∀ i, i < n → C.2.1 6 i = nI (f i) ∧ f i < n) (hf2 : ∀ x, x < n → ∃ i, i < n ∧ f i = x) (hf3 : ∀ i j, i < j → j < n → ahd M (f i) (f j)) (hk : k' ≤ n) (hk1 : ∀ i, k' ≤ i → i < n → ¬ gP C (f i) 2 ≤ z) (hk2 : k' = 0 ∨ gP C (f (k' - 1)) 2 ≤ z) : ∀ i, RI (cN (cAF (cAdd C (kAct x y z w) (fun _ _ => 0)) 6 (upd (shf (C.2.1 6) k' n) k' (nI n))) 12 (nI (n + 1))) (mNew n x y z w M) (n + 1) t u d e kp fa i := by
  obtain ⟨b1, b2, b3, b4⟩ : M.1 7 = nI n ∧ C.1 12 = nI n ∧ gN C = n ∧ n ≤ 80 := h 0
  obtain ⟨z1, z2, z3, z4⟩ : M.2.1 11 n = 0 ∧ M.2.1 18 n = 0 ∧ M.2.1 21 n = 0 ∧ M.2.1 16 n = 0 := h 25 n (Nat.le_refl _) hn
  generalize hC' : cN (cAF (cAdd C (kAct x y z w) (fun _ _ => 0)) 6 (upd (shf (C.2.1 6) k' n) k' (nI n))) 12 (nI (n + 1)) = C'
  generalize hM' : mNew n x y z w M = M'
  have cP0 : ∀ m, m ≠ n → gP C' m = gP C m := fun m hm => by rw [← hC']; show va_up (gP C) (gN C) _ m = _; simp only [va_up]; rw [if_neg (by omega)]
  have cPn : gP C' n = kAct x y z w := by rw [← hC']; show va_up (gP C) (gN C) (kAct x y z w) n = _; rw [b3]; exact va_up_self _ _ _
  have cQ0 : ∀ m, m ≠ n → gQ C' m = gQ C m := fun m hm => by rw [← hC']; show va_up (gQ C) (gN C) _ m = _; simp only [va_up]; rw [if_neg (by omega)]
  have cQn : gQ C' n = fun _ _ => 0 := by rw [← hC']; show va_up (gQ C) (gN C) (fun _ _ => 0) n = _; rw [b3]; exact va_up_self _ _ _
  have m11 : M'.2.1 11 = M.2.1 11 := by rw [← hM']; rfl
  have m30 : M'.2.1 30 = M.2.1 30 := by rw [← hM']; rfl
  have m33 : M'.2.1 33 = M.2.1 33 := by rw [← hM']; rfl
  have m21 : M'.2.1 21 = M.2.1 21 := by rw [← hM']; rfl
  have mo : ∀ k i, i ≠ n → M'.2.1 k i = M.2.1 k i := fun k i hi => by
    rw [← hM']; simp only [mNew, mI_21, mR_get]
    repeat' split
    all_goals first | rfl | (subst_vars; first | exact pk_un hi | rfl)
  have e8 : M'.2.1 8 n = x := by rw [← hM']; exact pk_us
  have e9 : M'.2.1 9 n = y := by rw [← hM']; exact pk_us
  have e10 : M'.2.1 10 n = z := by rw [← hM']; exact pk_us
  have e19 : M'.2.1 19 n = w := by rw [← hM']; exact pk_us
  have e17 : M'.2.1 17 n = -1 := by rw [← hM']; exact pk_us
  have e20 : M'.2.1 20 n = -1 := by rw [← hM']; exact pk_us
  have e18 : M'.2.1 18 = M.2.1 18 := by rw [← hM']; rfl
  have rk : ∀ a, a < n → gP C a 2 = M.2.1 10 a := fun a ha => h 12 a ha 2
  have dn : ∀ i a, i < d → M.2.1 30 i = nI a → a < 80 → a < n := fun i a hi ha h80 => by
    obtain ⟨-, b, hb, hb2, -⟩ := h 14 i hi
    have := (nIeq (a := a) (b := b) (by omega) (by omega)).mp (ha.symm.trans hb2)
    omega
  intro i
  match i with
  | 0 => exact ⟨by rw [← hM']; rfl, by rw [← hC']; rfl, by rw [← hC']; show gN C + 1 = n + 1; omega, by omega⟩
  | 1 => rw [← hM', ← hC']; exact h 1
  | 2 =>
    obtain ⟨g1, g2, g3⟩ : M.1 29 = nI d ∧ C.1 13 = nI d ∧ d ≤ n := h 2
    exact ⟨by rw [← hM']; exact g1, by rw [← hC']; exact g2, by omega⟩
  | 3 => rw [← hM', ← hC']; exact h 3
  | 4 => rw [← hM', ← hC']; exact h 4
  | 5 => rw [← hM', ← hC']; exact h 5
  | 6 => rw [← hM', ← hC']; exact h 6
  | 7 => rw [← hM', ← hC']; exact h 7
  | 8 => rw [← hM', ← hC']; exact h 8
  | 9 => rw [← hM', ← hC']; exact h 9
  | 10 =>
    intro c hc
    rw [vCell_c (M := M) (by rw [← hM']; rfl) (by rw [← hM']; rfl) m30]
    rw [← hM', ← hC']; exact h 10 c hc
  | 11 =>
    intro c hc
    rw [vCnt_c (M := M) (by rw [← hM']; rfl) m30]
    rw [← hM', ← hC']; exact h 11 c hc
  | 12 =>
    intro a ha
    by_cases han : a = n
    · subst han
      intro i
      match i with
      | 0 => obtain ⟨p, hp, rfl⟩ := hx; exact ⟨by rw [cPn, e8]; rfl, p, hp, e8⟩
      | 1 => obtain ⟨p, hp, rfl⟩ := hy; exact ⟨by rw [cPn, e9]; rfl, p, hp, e9⟩
      | 2 => show gP C' a 2 = M'.2.1 10 a; rw [cPn, e10]; rfl
      | 3 =>
        refine ⟨by rw [cPn, e19]; rfl, ?_⟩
        rw [e19]
        rcases hw with q | ⟨b, hb, q, -⟩
        · exact Or.inl q
        · exact Or.inr ⟨b, hb, q⟩
      | 4 => exact ⟨by rw [cPn, m11, z1]; rfl, 0, by omega, by rw [m11, z1]; rfl⟩
      | 5 => exact ⟨by rw [cPn, e20]; rfl, by rw [cPn, e17]; rfl, by rw [cPn, e18, z2]; rfl⟩
      | 6 => intro hs; rw [m11, z1] at hs; exact absurd hs (by decide)
      | 7 => intro hs; rw [m11, z1] at hs; rcases hs with q | q <;> exact absurd q (by decide)
      | 8 => intro _; rw [cQn, cPn]; exact ⟨fun _ _ => rfl, fun _ _ => ⟨rfl, rfl⟩, rfl⟩
      | 9 => left; rw [cPn]; rfl
      | 10 => left; rw [m21, z3]
      | 11 =>
        intro b hb hbw
        rw [e19] at hbw
        rcases hw with q | ⟨b2, hb2, q, hq⟩
        · rw [q] at hbw
          have := congrArg Int32.toInt hbw
          rw [nI_toInt (by omega)] at this
          rw [show ((-1 : Int32)).toInt = -1 from by decide] at this
          omega
        · have := (nIeq (a := b2) (b := b) (by omega) (by omega)).mp (q.symm.trans hbw)
          subst this; rw [m11]; exact Or.inr hq
      | 12 => exact Or.inr (Or.inr e17)
      | k + 13 => trivial
    · intro i
      refine RA_tr2 (by omega) (cP0 a han) (cQ0 a han) m11 (fun k h1 h2 i hi => ?_) i (h 12 a (by omega) i)
      rcases hi with q | ⟨q, _⟩ | ⟨q, _⟩ | ⟨q, _⟩ | ⟨q, _⟩
      · exact mo k i (by omega)
      · subst q; rw [← hM']; rfl
      · subst q; rw [← hM']; rfl
      · rcases q with q | q <;> (subst q; rw [← hM']; rfl)
      · rcases q with q | q <;> (subst q; rw [← hM']; rfl)
  | 13 =>
    refine ⟨fun i => if i < k' then f i else if i = k' then n else f (i - 1), fun i hi => ?_, fun x hx => ?_, fun i j hij hj => ?_⟩
    · have e6 : C'.2.1 6 = upd (shf (C.2.1 6) k' n) k' (nI n) := by rw [← hC']; rfl
      rw [e6, upd_get]
      show _ = nI (if i < k' then f i else if i = k' then n else f (i - 1)) ∧ (if i < k' then f i else if i = k' then n else f (i - 1)) < n + 1
      by_cases q1 : i < k'
      · have := hf1 i (by omega)
        rw [if_neg (by omega), if_pos q1]; simp only [shf]; rw [if_neg (by omega)]; exact ⟨this.1, by omega⟩
      · by_cases q2 : i = k'
        · rw [if_pos q2, if_neg q1, if_pos q2]; exact ⟨rfl, by omega⟩
        · have := hf1 (i - 1) (by omega)
          rw [if_neg q2, if_neg q1, if_neg q2]; simp only [shf]; rw [if_pos (by omega)]; exact ⟨this.1, by omega⟩
    · by_cases hxn : x = n
      · exact ⟨k', by omega, by show (if k' < k' then f k' else if k' = k' then n else f (k' - 1)) = x; rw [if_neg (by omega), if_pos rfl, hxn]⟩
      · obtain ⟨i, hi, e⟩ := hf2 x (by omega)
        by_cases q1 : i < k'
        · exact ⟨i, by omega, by show (if i < k' then f i else if i = k' then n else f (i - 1)) = x; rw [if_pos q1, e]⟩
        · exact ⟨i + 1, by omega, by show (if i + 1 < k' then f (i + 1) else if i + 1 = k' then n else f (i + 1 - 1)) = x; rw [if_neg (by omega), if_neg (by omega), Nat.add_sub_cancel, e]⟩
    · have old : ∀ a b, a < n → b < n → ahd M a b → ahd M' a b := fun a b ha hb q => by
        unfold ahd at q ⊢; rw [mo 10 a (by omega), mo 10 b (by omega)]; exact q
      have bef : ∀ i, i < k' → ahd M' (f i) n := fun i hi => by
        have hz : gP C (f (k' - 1)) 2 ≤ z := by rcases hk2 with q | q; omega; exact q
        have h1 := (hf1 i (by omega)).2
        have h2 := (hf1 (k' - 1) (by omega)).2
        rw [rk _ h2] at hz
        have hz := k_le hz
        rw [ahd_iff, mo 10 (f i) (by omega), e10]
        by_cases e : i = k' - 1
        · rw [e]; rw [e] at h1; omega
        · have := hf3 i (k' - 1) (by omega) (by omega)
          rw [ahd_iff] at this; omega
      have aft : ∀ i, k' ≤ i → i < n → ahd M' n (f i) := fun i h1 h2 => by
        have hz := k_nle (hk1 i h1 h2)
        have h3 := (hf1 i h2).2
        rw [rk _ h3] at hz
        rw [ahd_iff, mo 10 (f i) (by omega), e10]; omega
      show ahd M' (if i < k' then f i else if i = k' then n else f (i - 1)) (if j < k' then f j else if j = k' then n else f (j - 1))
      by_cases q1 : j < k'
      · rw [if_pos q1, if_pos (by omega)]; exact old _ _ (hf1 i (by omega)).2 (hf1 j (by omega)).2 (hf3 i j hij (by omega))
      · rw [if_neg q1]
        by_cases q2 : j = k'
        · rw [if_pos q2, if_pos (by omega)]; exact bef i (by omega)
        · rw [if_neg q2]
          by_cases q3 : i < k'
          · rw [if_pos q3]; exact old _ _ (hf1 i (by omega)).2 (hf1 (j - 1) (by omega)).2 (hf3 i (j - 1) (by omega) (by omega))
          · rw [if_neg q3]
            by_cases q4 : i = k'
            · rw [if_pos q4]; exact aft (j - 1) (by omega) (by omega)
            · rw [if_neg q4]; exact old _ _ (hf1 (i - 1) (by omega)).2 (hf1 (j - 1) (by omega)).2 (hf3 (i - 1) (j - 1) (by omega) (by omega))
  | 14 =>
    intro i hi
    obtain ⟨g1, b, g2, g3, g4⟩ := h 14 i hi
    exact ⟨by rw [m30, ← hC']; exact g1, b, by omega, by rw [m30]; exact g3, by rw [m11]; exact g4⟩
  | 15 => simp only [RI, m30]; exact h 15
  | 16 =>
    intro b hb hs
    rw [m11] at hs; rw [m30]
    by_cases e : b = n
    · rw [e, z1] at hs; rcases hs with q | q <;> exact absurd q (by decide)
    · exact h 16 b (by omega) hs
  | 17 => simp only [RI, m33]; rw [← hC']; exact h 17
  | 18 =>
    intro a ha hs
    rw [m11] at hs; rw [m33]
    by_cases e : a = n
    · rw [e, z1] at hs; exact absurd hs (by decide)
    · rw [cP0 a e]; exact h 18 a (by omega) hs
  | 19 =>
    intro i h1 h2 h3
    rw [m33] at h3 ⊢
    obtain ⟨a, g1, g2, g3, g4⟩ := h 19 i h1 h2 h3
    exact ⟨a, by omega, g2, by rw [m11]; exact g3, by rw [cP0 a (by omega)]; exact g4⟩
  | 20 =>
    intro i h1 h2 h3
    rw [m33] at h3 ⊢
    obtain ⟨a, g1, g2, g3, g4, g5⟩ := h 20 i h1 h2 h3
    exact ⟨a, by omega, g2, by rw [m11]; exact g3, by rw [cP0 a (by omega)]; exact g4, by rw [m21]; exact g5⟩
  | 21 =>
    intro a ha hs
    rw [m11] at hs; rw [m33]
    by_cases e : a = n
    · rw [e, z1] at hs; exact absurd hs (by decide)
    · rw [cP0 a e]; exact h 21 a (by omega) hs
  | 22 =>
    intro i j a b x y hij hj ha ha8 hb hb8 hs
    rw [m30] at ha hb; rw [m11] at hs ⊢
    have l1 := dn i a (by omega) ha ha8
    have l2 := dn j b hj hb hb8
    rw [cP0 a (by omega), cP0 b (by omega)]
    exact h 22 i j a b x y hij hj ha ha8 hb hb8 hs
  | 23 =>
    intro j b p hj hb hb8 hp hp8
    rw [m30] at hb ⊢
    have l2 := dn j b hj hb hb8
    rw [mo 19 b (by omega)] at hp
    exact h 23 j b p hj hb hb8 hp hp8
  | 24 =>
    intro k hk
    have e : ∀ m, m ≤ n → cntK M' k m = cntK M k m := by
      intro m
      induction m with
      | zero => intro _; rfl
      | succ m ih => intro hm; simp only [cntK]; rw [ih (by omega), m11, mo 9 m (by omega)]
    show cntK M' k n + (if M'.2.1 11 n = 1 ∧ M'.2.1 9 n = nI k then 1 else 0) ≤ 9
    rw [e n (Nat.le_refl _), m11, z1, if_neg (fun q => absurd q.1 (by decide))]
    exact h 24 k hk
  | 25 =>
    intro a h1 h2
    have g := h 25 a (by omega) h2
    have e16 : M'.2.1 16 = M.2.1 16 := by rw [← hM']; rfl
    rw [m11, e18, m21, e16]; exact g
  | k + 26 => trivial
theorem s_act (j : Nat) (C : CS) (M : MS) (x y z : Int32) (hR : RLaw j C M) : ∃ (q1 : Int32) (C1 : CS) (q2 : Int32) (M1 : MS), f_X3_act x y z C = some (q1, C1) ∧ f_X4_act x y z M = some (q2, M1) ∧ RLaw (j + 1) C1 M1 ∧ q1 = q2 := by
  obtain ⟨n, t, d, e, kp, fa, h1, h⟩ := id hR
  obtain ⟨b1, b2, b3, b4⟩ : M.1 7 = nI n ∧ C.1 12 = nI n ∧ gN C = n ∧ n ≤ 80 := h 0
  have no : ∃ (q1 : Int32) (C1 : CS) (q2 : Int32) (M1 : MS), some ((-1 : Int32), C) = some (q1, C1) ∧ some ((-1 : Int32), M) = some (q2, M1) ∧ RLaw (j + 1) C1 M1 ∧ q1 = q2 := ⟨_, C, _, M, rfl, rfl, RLaw_mono hR, rfl⟩
  unfold f_X3_act f_X4_act f_X4_isProgram
  rw [show (7 : Int32) = nI 8 - 1 from by decide, show (3 : Int32) = nI 4 - 1 from by decide, show (9 : Int32) = nI 10 - 1 from by decide, show f_X3_isBelow x (8 : Int32) = f_X3_isBelow x (nI 8) from rfl, show f_X3_isBelow y (4 : Int32) = f_X3_isBelow y (nI 4) from rfl, show f_X3_isBelow z (10 : Int32) = f_X3_isBelow z (nI 10) from rfl]
  rcases rng x 8 (by omega) with ⟨p, hp, rfl, e1, e2⟩ | ⟨e1, e2⟩
  · rw [e1, e2, if_neg i10, if_neg i10]
    rcases rng y 4 (by omega) with ⟨k, hk, rfl, e3, e4⟩ | ⟨e3, e4⟩
    · rw [e3, e4, if_neg i10, if_neg i10]
      rcases rng z 10 (by omega) with ⟨r, hr, rfl, e5, e6⟩ | ⟨e5, e6⟩
      · rw [e5, e6, if_neg i10, if_neg i10]
        by_cases h80 : n = 80
        · subst h80
          rw [c_admit_full b2, m_newAct_80 b1]; exact no
        · obtain ⟨f, f1, f2, f3⟩ := h 13
          obtain ⟨k', g1, g2, g3, g4⟩ := c_admit (C := C) (x := nI p) (y := nI k) (z := nI r) (w := -1) (f := f) (n := n) (by omega) b3 b2 f1
          rw [g2, m_newAct b1 (by omega), k_bs, k_bs]
          exact ⟨_, _, _, _, rfl, rfl, ⟨n + 1, t, d, e, kp, fa, by omega, R_new (by omega) h ⟨p, hp, rfl⟩ ⟨k, hk, rfl⟩ (Or.inl rfl) f1 f2 f3 g1 g3 g4⟩, rfl⟩
      · rw [e5, e6, if_pos rfl, if_pos rfl]; exact no
    · rw [e3, e4, if_pos rfl, if_pos rfl]; exact no
  · rw [e1, e2, if_pos rfl, if_pos rfl]; exact no
