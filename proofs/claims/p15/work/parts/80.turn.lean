theorem fin_loop {a q t u d e kp fa : Nat} (hq : q ≤ 12) (k i : Nat) (C : CS) (M : MS) (n : Nat) (h : ∀ j, RI C M n t u d e kp fa j) (ha : a < n) (hs : M.2.1 11 a = 2) (h11 : gP C a 11 = nI q) (h28 : M.2.1 28 a = nI q) (hQ : ∀ j, j < q → gQ C a 9 j = M.2.1 27 (12 * a + j) ∧ ∃ p, p < 8 ∧ M.2.1 27 (12 * a + j) = nI p) (hk : q < k + i) (hi : i ≤ q) : ∃ (C' : CS) (M' : MS) (n' : Nat), f_X3_finishAct_74 k (nI a) a (nI i) C = some (0, C') ∧ f_X4_isDone_56 k (nI a) (nI i) M = some (0, M') ∧ (∀ j, RI C' M' n' t u d e kp fa j) ∧ n ≤ n' ∧ C'.1 14 = C.1 14 ∧ C'.2.1 8 = C.2.1 8 ∧ (∀ k, k = 11 ∨ k = 13 ∨ k = 14 ∨ k = 16 ∨ k = 36 → M'.2.1 k = M.2.1 k) ∧ ∀ x, x < n → gP C' x = gP C x := by
  induction k generalizing i C M n with
  | zero => omega
  | succ k ih =>
    obtain ⟨b1, b2, b3, b4⟩ : M.1 7 = nI n ∧ C.1 12 = nI n ∧ gN C = n ∧ n ≤ 80 := h 0
    rw [f_X3_finishAct_74, f_X4_isDone_56, h11, if_pos (ck a 80 (by omega)), nc a (by omega), h28]
    by_cases h0 : q ≤ i
    · rw [if_pos (np_ h0 (by omega) (by omega)), if_pos (np_ h0 (by omega) (by omega))]
      exact ⟨C, M, n, rfl, rfl, h, Nat.le_refl _, rfl, rfl, fun _ _ => rfl, fun _ _ => rfl⟩
    · obtain ⟨q1, p, hp, q2⟩ := hQ i (by omega)
      rw [if_neg (nn h0 (by omega) (by omega)), if_neg (nn h0 (by omega) (by omega)), if_pos (ck i 12 (by omega)), nc i (by omega), ix12, if_pos (ck (12 * a + i) 960 (by omega)), nc (12 * a + i) (by omega), q1, q2, (h 12 a ha 1).1, (show gP C a 2 = M.2.1 10 a from h 12 a ha 2), n1, nI_add]
      by_cases h80 : n = 80
      · subst h80
        rw [c_admit_full b2, m_newAct_80 b1, k_bs, k_bs]
        exact ih (i + 1) C M 80 h ha hs h11 h28 hQ (by omega) (by omega)
      · obtain ⟨f, f1, f2, f3⟩ := h 13
        obtain ⟨k', g1, g2, g3, g4⟩ := c_admit (C := C) (x := nI p) (y := M.2.1 9 a) (z := M.2.1 10 a) (w := nI a) (f := f) (n := n) (by omega) b3 b2 f1
        rw [g2, m_newAct b1 (by omega), k_bs, k_bs]
        have hR := R_new (by omega) h ⟨p, hp, rfl⟩ (h 12 a ha 1).2 (Or.inr ⟨a, ha, rfl, Or.inl hs⟩) f1 f2 f3 g1 g3 g4
        have eP : ∀ x, x < n → gP (cN (cAF (cAdd C (kAct (nI p) (M.2.1 9 a) (M.2.1 10 a) (nI a)) (fun _ _ => 0)) 6 (upd (shf (C.2.1 6) k' n) k' (nI n))) 12 (nI (n + 1))) x = gP C x := fun x hx => by
          show va_up (gP C) (gN C) _ x = _; simp only [va_up]; rw [if_neg (by omega)]
        have eQ : ∀ x, x < n → gQ (cN (cAF (cAdd C (kAct (nI p) (M.2.1 9 a) (M.2.1 10 a) (nI a)) (fun _ _ => 0)) 6 (upd (shf (C.2.1 6) k' n) k' (nI n))) 12 (nI (n + 1))) x = gQ C x := fun x hx => by
          show va_up (gQ C) (gN C) _ x = _; simp only [va_up]; rw [if_neg (by omega)]
        obtain ⟨C', M', n', r1, r2, r3, r4, r5, r6, r7, r8⟩ := ih (i + 1) _ _ (n + 1) hR (by omega) hs (by rw [eP a ha]; exact h11) h28 (fun j hj => by rw [eQ a ha]; exact hQ j hj) (by omega) (by omega)
        refine ⟨C', M', n', r1, r2, r3, by omega, r5, r6, fun k hk => ?_, fun x hx => by rw [r8 x (by omega), eP x hx]⟩
        rw [r7 k hk]
        rcases hk with rfl | rfl | rfl | rfl | rfl <;> rfl
theorem SO_done {a : Nat} {C C2 : CS} {M M2 : MS} {n t d e e' kp fa l q' : Nat} (h : ∀ i, RI C M n t (t + 1) d e kp fa i) (ha : a < n) (hs : M.2.1 11 a = 1) (hR : RIn a C2 M2 n t (t + 1) d e' kp fa) (he : e' ≤ e + 1) (hC : CX a C C2) (hM : MX a M M2) (hF : ∀ j, j = 0 ∨ j = 1 ∨ j = 2 ∨ j = 3 ∨ j = 15 ∨ j = 16 ∨ j = 19 → gP C2 a j = gP C a j) (hMf : ∀ j, j = 11 ∨ j = 18 ∨ j = 20 → M2.2.1 j a = M.2.1 j a) (hB : BGx C2 M2 a l q') (hq : q' ≤ 12) (hb : e' < 512000) : ∃ C' M', f_X3_finishAct (nI a) C2 = some (0, C') ∧ f_X4_isDone (nI a) M2 = some (0, M') ∧ SO a C M n t d e kp fa C' M' := by
  obtain ⟨b1, b2, b3, b4⟩ : M2.1 7 = nI n ∧ C2.1 12 = nI n ∧ gN C2 = n ∧ n ≤ 80 := hR.1 0 (by omega)
  obtain ⟨t1, t2, t3⟩ : M2.1 0 = nI t ∧ C2.1 15 = nI t ∧ t ≤ 5000 := hR.1 1 (by omega)
  obtain ⟨d1, d2, d3⟩ : M2.1 29 = nI d ∧ C2.1 13 = nI d ∧ d ≤ n := hR.1 2 (by omega)
  obtain ⟨z1, z2, z3, z4, z5, z6⟩ : M2.1 31 = nI e' ∧ C2.1 21 = nI e' ∧ 4 * e' ≤ M2.2.2 ∧ lnOK M2.2.2 ∧ e' ≤ gE C2 ∧ isE (gE C2) := hR.1 3 (by omega)
  have a80 : a < 80 := by omega
  have s2 : M2.2.1 11 a = 1 := by rw [hMf 11 (by omega)]; exact hs
  have hdn := d_lt hR.1 ha s2
  have hA := h 12 a ha
  have v0 : M.2.1 21 a = 0 := by
    rcases hA 10 with q | ⟨-, q, -⟩
    · exact q
    · rw [hs] at q; exact absurd q (by decide)
  have r2 : ∀ k, (k ≤ 10 ∨ k = 19 ∨ k = 21) → M2.2.1 k a = M.2.1 k a := fun k hk => hM k a (by omega) (noAt (by omega))
  have par : ∀ p, p < 80 → M.2.1 19 a = nI p → p ≠ a ∧ (M.2.1 11 p = 2 ∨ M.2.1 11 p = 3) := fun p hp hpe => by
    rcases hA 11 p hp hpe with q | q
    · rw [v0] at q; exact absurd q (by decide)
    · exact ⟨fun e => by subst e; rw [hs] at q; rcases q with q | q <;> exact absurd q (by decide), q⟩
  generalize hC3 : cP (cP C2 a 12 2) a 17 (nI t) = C3
  generalize hM3 : mA (mA (mLet a M2) 11 a 2) 17 a (nI t) = M3
  have cC3 : CA a C2 C3 := by rw [← hC3]; exact CA_tr CA_P CA_P
  have cM3 : MA a M2 M3 := by rw [← hM3]; exact MA_tr (MA_tr (MA_let a M2) (MA_a (by omega))) (MA_a (by omega))
  obtain ⟨C4, w1, w2⟩ := c_write (C := C3) (e := e') (k := 2) (a := nI a) (c := -1) (t := nI t) (by rw [cC3.1.1]; exact z2) (by rw [cC3.1.2.2.2.1]; exact z5) (by rw [cC3.1.2.2.2.1]; exact z6) (by omega)
  obtain ⟨M4, v1, v2⟩ := m_logs2 (M := M3) (e := e') (x := 2) (y := nI a) (z := -1) (by rw [cM3.1]; exact z1) (by rw [cM3.2.1]; exact z3) (by rw [cM3.2.1]; exact z4) hb
  have cal : CAL a C2 (cP C4 a 18 (nI e')) e' (enc (nI 2) (nI a) (-1) (nI t)) := CAL_of cC3 w2 CA_P
  have mal : MAL a M2 M4 e' (nI 2) (nI a) (-1) := MAL_of cM3 v2 (MA_rf a M4)
  generalize hC5 : cP C4 a 18 (nI e') = C5 at cal
  have gP5 : ∀ j, j ≠ 12 → j ≠ 17 → j ≠ 18 → gP C5 a j = gP C2 a j := fun j h1 h2 h3 => by
    rw [← hC5, cP_Pa, if_neg h3, w2.2.2.2.2.2.2.1, ← hC3, cP_Pa, if_neg h2, cP_Pa, if_neg h1]
  have g12 : gP C5 a 12 = 2 := by rw [← hC5, cP_Pa, if_neg (by omega), w2.2.2.2.2.2.2.1, ← hC3, cP_Pa, if_neg (by omega), cP_Pa, if_pos rfl]
  have g17 : gP C5 a 17 = nI t := by rw [← hC5, cP_Pa, if_neg (by omega), w2.2.2.2.2.2.2.1, ← hC3, cP_Pa, if_pos rfl]
  have g18 : gP C5 a 18 = nI e' := by rw [← hC5, cP_Pa, if_pos rfl]
  have gQ5 : gQ C5 a = gQ C2 a := by rw [← hC5]; show gQ C4 a = _; rw [w2.2.2.2.2.2.2.2.1, ← hC3]; rfl
  have mo : ∀ j, j ≠ 33 → M4.2.1 j = M3.2.1 j := v2.2.1
  have s4 : M4.2.1 11 a = 2 := by rw [mo 11 (by omega), ← hM3, mA_ne (by omega)]; exact pk_us
  have n4 : M4.2.1 17 a = nI t := by rw [mo 17 (by omega), ← hM3]; exact pk_us
  have mk : ∀ j, j ≠ 33 → j ≠ 11 → j ≠ 17 → j ≠ 23 → j ≠ 16 → M4.2.1 j = M2.2.1 j := fun j h1 h2 h3 h4 h5 => by
    rw [mo j h1, ← hM3, mA_ne h3, mA_ne h2]; simp only [mLet, mR_get]; rw [if_neg h5, if_neg h4]
  have m23 : ∀ c, c < 24 → M4.2.1 23 (24 * a + c) = if M2.2.1 23 (24 * a + c) = 2 then 3 else 0 := fun c hc => by
    rw [mo 23 (by omega), ← hM3, mA_ne (by omega), mA_ne (by omega)]
    have e : (mLet a M2).2.1 23 = rwm (M2.2.1 23) (24 * a) 24 (fun i => if M2.2.1 23 i = 2 then 3 else 0) := rfl
    rw [e]; simp only [rwm]; rw [if_pos (show 24 * a ≤ 24 * a + c ∧ 24 * a + c < 24 * a + 24 by omega)]
  obtain ⟨g1, g2, g3, g4, g5, g6, g7, g8, g9, g10⟩ := hB
  have hD : (∀ c, c < 24 → (gQ C5 a 5 c = 2 ↔ M4.2.1 23 (24 * a + c) = 3) ∧ (M4.2.1 23 (24 * a + c) = 3 → gQ C5 a 6 c = M4.2.1 24 (24 * a + c))) ∧ (∀ c, c < 8 → gQ C5 a 7 c = M4.2.1 25 (8 * a + c)) := by
    refine ⟨fun c hc => ?_, fun c hc => by rw [gQ5, mk 25 (by omega) (by omega) (by omega) (by omega) (by omega)]; exact (g10 c hc).1⟩
    obtain ⟨y1, -, y3⟩ := g9 c hc
    rw [gQ5, m23 c hc, mk 24 (by omega) (by omega) (by omega) (by omega) (by omega), y1]
    by_cases z : M2.2.1 23 (24 * a + c) = 2
    · rw [if_pos z]; exact ⟨⟨fun _ => rfl, fun _ => z⟩, fun _ => y3 z⟩
    · rw [if_neg z]; exact ⟨⟨fun x => absurd x z, fun x => absurd x (by decide)⟩, fun x => absurd x (by decide)⟩
  generalize hC6 : (fun C6 : CS => cAF C6 4 (rwm (C6.2.1 4) 0 32 (cNew a C6))) (cN (cAF C5 7 (upd (C5.2.1 7) d (nI a))) 13 (nI (d + 1))) = C6
  generalize hM6 : mGet a (mI (mA M4 30 d (nI a)) 29 (nI (d + 1))) = M6
  have rin := RIn_done hR ha (fun p hp hpe => by
    rw [r2 19 (by omega)] at hpe
    obtain ⟨x1, x2⟩ := par p hp hpe
    rw [hM 11 p (by omega) (noAt1 x1 (by omega))]; exact x2) s2 cal mal s4 g18 hD hb hC6.symm hM6.symm
  have eP6 : gP C6 = gP C5 := by rw [← hC6]; rfl
  have eQ6 : gQ C6 = gQ C5 := by rw [← hC6]; rfl
  have eM6 : ∀ j, j ≠ 1 → j ≠ 2 → j ≠ 30 → M6.2.1 j = M4.2.1 j := fun j h1 h2 h3 => by
    rw [← hM6]; simp only [mGet, mR_get]; rw [if_neg h2, if_neg h1]; exact mA_ne h3
  have oth : ∀ k i, k ≠ 33 → k ≠ 1 → k ≠ 2 → k ≠ 30 → ¬ AtA k a i → M6.2.1 k i = M.2.1 k i := fun k i h1 h2 h3 h4 h5 => by
    rw [eM6 k h2 h3 h4, mal.2.1 k i h1 h5]; exact hM k i h1 h5
  have ra : ∀ i, RA C6 M6 (t + 1) a i := by
    have r : ∀ k, (k = 8 ∨ k = 9 ∨ k = 10 ∨ k = 19 ∨ k = 21) → M6.2.1 k a = M.2.1 k a := fun k hk => oth k a (by omega) (by omega) (by omega) (by omega) (noAt (by omega))
    have m11 : M6.2.1 11 a = 2 := by rw [eM6 11 (by omega) (by omega) (by omega)]; exact s4
    have m17 : M6.2.1 17 a = nI t := by rw [eM6 17 (by omega) (by omega) (by omega)]; exact n4
    have gq : ∀ j, j = 0 ∨ j = 1 ∨ j = 2 ∨ j = 3 ∨ j = 15 ∨ j = 16 ∨ j = 19 → gP C6 a j = gP C a j := fun j hj => by rw [eP6, gP5 j (by omega) (by omega) (by omega)]; exact hF j hj
    intro i
    match i with
    | 0 => simp only [RA, gq 0 (by omega), r 8 (by omega)]; exact hA 0
    | 1 => simp only [RA, gq 1 (by omega), r 9 (by omega)]; exact hA 1
    | 2 => simp only [RA, gq 2 (by omega), r 10 (by omega)]; exact hA 2
    | 3 => simp only [RA, gq 3 (by omega), r 19 (by omega)]; exact hA 3
    | 4 => exact ⟨by rw [eP6, g12, m11], 2, by omega, m11⟩
    | 5 =>
      refine ⟨by rw [gq 16 (by omega), eM6 20 (by omega) (by omega) (by omega), mk 20 (by omega) (by omega) (by omega) (by omega) (by omega), hMf 20 (by omega)]; exact (hA 5).1, by rw [eP6, g17, m17], by rw [gq 19 (by omega), eM6 18 (by omega) (by omega) (by omega), mk 18 (by omega) (by omega) (by omega) (by omega) (by omega), hMf 18 (by omega)]; exact (hA 5).2.2⟩
    | 6 => intro q; rw [m11] at q; exact absurd q (by decide)
    | 7 =>
      intro _
      refine ⟨fun c hc => ?_, fun c hc => ?_, t, by omega, m17⟩
      · rw [eQ6, eM6 23 (by omega) (by omega) (by omega), eM6 24 (by omega) (by omega) (by omega)]; exact hD.1 c hc
      · rw [eQ6, eM6 25 (by omega) (by omega) (by omega)]; exact hD.2 c hc
    | 8 => intro q; rw [m11] at q; exact absurd q (by decide)
    | 9 => simp only [RA, gq 15 (by omega)]; exact hA 9
    | 10 => left; rw [r 21 (by omega)]; exact v0
    | 11 =>
      intro p hp hpe
      rw [r 19 (by omega)] at hpe
      obtain ⟨x1, x2⟩ := par p hp hpe
      right; rw [oth 11 p (by omega) (by omega) (by omega) (by omega) (noAt1 x1 (by omega))]; exact x2
    | 12 => left; exact m11
    | k + 13 => trivial
  have hR6 := RI_of rin ra
  have m11 : M6.2.1 11 a = 2 := by rw [eM6 11 (by omega) (by omega) (by omega)]; exact s4
  obtain ⟨C', M', n', y1, y2, y3, y4, y5, y6, y7, y8⟩ := fin_loop (a := a) (q := q') hq 200 0 C6 M6 n hR6 ha m11 (by rw [eP6, gP5 11 (by omega) (by omega) (by omega)]; exact g4) (by rw [eM6 28 (by omega) (by omega) (by omega), mk 28 (by omega) (by omega) (by omega) (by omega) (by omega)]; exact g3) (fun j hj => by rw [eQ6, gQ5, eM6 27 (by omega) (by omega) (by omega), mk 27 (by omega) (by omega) (by omega) (by omega) (by omega)]; exact g8 j hj) (by omega) (by omega)
  refine ⟨C', M', ?_, ?_, n', d + 1, e' + 1, y3, y4, by omega, ?_, ?_, ?_, fun x hx hxa => ⟨fun k hk => ?_, fun j hj => ?_, ?_⟩, fun x hx1 hx2 => ?_, fun q => ?_, ?_⟩
  · unfold f_X3_finishAct f_X3_finishAct_67
    rw [if_pos ⟨ck a 80 (by omega), by rw [nc a (by omega)]; omega⟩, nc a (by omega), k_ls, k_ls, show (cP C2 a 12 2).1 15 = nI t from t2, hC3, show C3.1 15 = nI t from by rw [cC3.1.1]; exact t2, w1, k_bs, k_ls, hC5]
    have e13 : C5.1 13 = nI d := by rw [cal.1]; exact d2
    rw [e13, if_neg (show ¬ 80 ≤ nI d from nn (a := 80) (by omega) (by omega) (by omega)), if_pos (ck d 80 (by omega)), nc d (by omega), k_ls, k_ls]
    rw [show (cAF C5 7 (upd (C5.2.1 7) d (nI a))).1 13 = nI d from e13, n1, nI_add, c_tell, k_bs]
    have hC6' : cAF (cN (cAF C5 7 (upd (C5.2.1 7) d (nI a))) 13 (nI (d + 1))) 4 (rwm ((cN (cAF C5 7 (upd (C5.2.1 7) d (nI a))) 13 (nI (d + 1))).2.1 4) 0 32 (cNew a (cN (cAF C5 7 (upd (C5.2.1 7) d (nI a))) 13 (nI (d + 1))))) = C6 := hC6
    rw [hC6']; exact y1
  · unfold f_X4_isDone
    rw [m_lets a80, k_bs, if_pos (ck a 80 (by omega)), nc a (by omega), k_ls, k_ls, show (mA (mLet a M2) 11 a 2).1 0 = nI t from t1, hM3, v1, k_bs]
    have e29 : M4.1 29 = nI d := by rw [mal.1]; exact d1
    rw [e29, if_pos (ck d 80 (by omega)), nc d (by omega), k_ls, k_ls, show (mA M4 30 d (nI a)).1 29 = nI d from e29, n1, nI_add, m_gets a80, k_bs, hM6]; exact y2
  · rw [y5, ← hC6]; show C5.1 14 = _; rw [cal.1]; exact hC.1
  · rw [y6, ← hC6]; show C5.2.1 8 = _; rw [cal.2.1 8 (by omega)]; exact hC.2.1
  · rw [y7 36 (by omega)]; funext i; exact oth 36 i (by omega) (by omega) (by omega) (by omega) (noAt (by omega))
  · rw [y7 k (by omega)]; exact oth k x (by omega) (by omega) (by omega) (by omega) (noAt1 hxa (by omega))
  · rw [y7 13 (by omega)]; exact oth 13 _ (by omega) (by omega) (by omega) (by omega) (noAt12 hxa (by omega) hj)
  · rw [y8 x hx, eP6, (cal.2.2.2.2.2.2.2.2 x hxa).1, (hC.2.2 x hxa).1]
  · rw [y7 11 (by omega)]
    have n8 : n' ≤ 80 := (y3 0 : M'.1 7 = nI n' ∧ C'.1 12 = nI n' ∧ gN C' = n' ∧ n' ≤ 80).2.2.2
    exact (hR6 25 x hx1 (by omega)).1
  · rw [y7 11 (by omega), m11] at q; exact absurd q (by decide)
  · rw [y7 11 (by omega), m11, if_neg (fun q => absurd q.1 (by decide))]; omega
/-- one act's turn -/
theorem take_same {C : CS} {M : MS} {n t d e kp fa m a : Nat} {g : Nat → Nat} (h : ∀ i, RI C M n t (t + 1) d e kp fa i) (h14 : C.1 14 = nI m) (hm : m ≤ 36) (hrun : ∀ q, q < m → C.2.1 8 q = nI (g q) ∧ g q < n) (hall : ∀ x, x < n → M.2.1 11 x = 1 → ∃ q, q < m ∧ g q = x) (ha : a < n) (hs : M.2.1 11 a = 1) (h15 : gP C a 15 ≠ nI t) (hb : e + 1 < 512000) : ∃ C' M', f_X3_takeStep (nI a) C = some (0, C') ∧ f_X4_does (nI a) M = some (0, M') ∧ SO a C M n t d e kp fa C' M' := by
  obtain ⟨b1, b2, b3, b4⟩ : M.1 7 = nI n ∧ C.1 12 = nI n ∧ gN C = n ∧ n ≤ 80 := h 0
  obtain ⟨t1, t2, t3⟩ : M.1 0 = nI t ∧ C.1 15 = nI t ∧ t ≤ 5000 := h 1
  obtain ⟨l, s, q, l12, sl, qs, e14, c14, bg⟩ := BG_of (h 12 a ha 6 hs)
  obtain ⟨st1, k, hk, st2, hsk⟩ := bg.2.2.2.2.2.2.1 s sl
  have hsk : sk k := hsk
  have has : ∀ (C0 : CS) (x : Nat), gP C0 a 10 = nI l → gP C0 a 14 = nI x → x < 2147483648 → f_X0_hasStep a C0 = some ((if x < l then 1 else 0), C0) := fun C0 x q1 q2 q3 => by
    unfold f_X0_hasStep
    rw [q1, q2, if_neg (show ¬ nI x < 0 from fun z => by have := (nIlt (a := x) (b := 0) q3 (by omega)).mp z; omega)]
    by_cases z : l ≤ x
    · rw [if_pos (np_ z (by omega) q3), if_neg (by omega)]
    · rw [if_neg (nn z (by omega) q3), if_pos (by omega)]
  obtain ⟨r, cb, r01, cd, rop⟩ := can_same h h14 hm hrun hall ha hk hsk
  unfold f_X3_takeStep f_X4_does
  rw [if_pos ⟨ck a 80 (by omega), by rw [nc a (by omega)]; omega⟩, nc a (by omega), has C s bg.2.1 c14 (by omega), k_bs, if_pos sl, if_neg i10, c14, if_pos (ck s 12 (by omega)), nc s (by omega), st1, st2, cb, k_bs, m_stepOf (by omega) e14 (by omega), k_bs, st2, op_nI hk, cel_nI hk, b_nI hk, cd, k_bs]
  rcases r01 with r0 | r1
  · rw [if_pos r0, if_pos r0, k_ls, t2]
    refine ⟨cP C a 15 (nI t), mA M 16 a 1, rfl, ?_, SO_held h ha hs (by omega) e14 st2 hk hsk (rop r0)⟩
    unfold f_X4_does_50
    rw [if_pos (ck a 80 (by omega)), nc a (by omega), k_ls, if_pos (ck a 80 (by omega)), show (1 : Int32) &&& 1 = 1 from by decide, if_neg (show ¬ (mA M 16 a 1).2.1 16 a = 0 from by rw [show (mA M 16 a 1).2.1 16 a = 1 from pk_us]; decide)]
  · have rn : ¬ r = 0 := by rw [r1]; decide
    rw [if_neg rn, if_neg rn, k_ls, c14, n1, nI_add]
    obtain ⟨r', C2, M2, v, e', q', p1, p2, p3, p4, p5, p6, p7, p8, p9, p10, p11, p12, p13⟩ := perform_same h ha hs l12 sl qs e14 c14 bg hk hsk (by omega)
    rw [p1, k_bs, show f_X4_does_50 (nI a) (nI (k / 10000)) (nI (k / 100 % 100)) (nI (k % 100)) (0 : Int32) (nI a) M = _ from p2]
    rcases p12 with q0 | q1
    · rw [if_pos q0, if_pos q0]
      rw [p5 q0] at p3
      obtain ⟨C', M', s1, s2, s3⟩ := SO_stop h ha hs p3 p6 p7 p9 (by omega)
      rw [s1, k_bs, s2]
      exact ⟨C', M', rfl, rfl, s3⟩
    · have rn' : ¬ r' = 0 := by rw [q1]; decide
      obtain ⟨bg2, qq⟩ := p13 q1
      rw [if_neg rn', if_neg rn']
      unfold f_X3_takeStep_67 f_X4_does_355
      rw [has C2 (s + 1 + v) bg2.2.1 p10 (by omega), k_bs, if_pos (ck a 80 (by omega)), nc a (by omega), m_in6, if_pos bg2.2.2.2.2.2.1, if_neg i10, k_ls, show M2.2.1 14 a = nI s from by rw [p9.2 14 (by omega)]; exact e14, n1, nI_add, nI_add, show s + (1 + v) = s + 1 + v by omega]
      have m14 : (mA M2 14 a (nI (s + 1 + v))).2.1 14 a = nI (s + 1 + v) := pk_us
      have m12 : (mA M2 14 a (nI (s + 1 + v))).2.1 12 a = nI l := by rw [mA_ne (by omega)]; exact bg2.1
      rw [m14, m12]
      by_cases z : s + 1 + v < l
      · rw [if_pos z, if_neg (show ¬ nI 1 = 0 by decide), if_pos ((nIlt (by omega) (by omega)).mpr z)]
        exact ⟨C2, _, rfl, rfl, SO_stay h ha hs h15 l12 p3 p4.2 p6 p7 p9 p10 z (by omega) p11 bg2⟩
      · rw [if_neg z, if_pos (show (0 : Int32) = 0 from rfl), if_neg (fun x => z ((nIlt (by omega) (by omega)).mp x))]
        have cM : MA a M2 (mA M2 14 a (nI (s + 1 + v))) := MA_a (by omega)
        have s2 : M2.2.1 11 a = 1 := by rw [p9.2 11 (by omega)]; exact hs
        obtain ⟨C', M', s1, s3, s4⟩ := SO_done (C2 := C2) (M2 := mA M2 14 a (nI (s + 1 + v))) (l := l) (q' := q') h ha hs (RIn_stay p3 ha (CA_rf a C2) cM s2 (by rw [mA_ne (by omega)]; exact s2)) p4.2 p6 (MX_tr p7 (MX_A cM)) (fun j hj => p9.1 j (by omega)) (fun j hj => by rw [mA_ne (by omega)]; exact p9.2 j (by omega)) (BG_c bg2 (fun _ _ => rfl) rfl (fun j hj => mA_ne (by omega))) (by omega) (by omega)
        rw [s1, k_bs, s3, k_bs]
        exact ⟨C', M', rfl, rfl, s4⟩
