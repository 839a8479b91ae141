/-! ===== an act is done ===== -/
def cNew (a : Nat) (C : CS) (p : Nat) : Int32 := if p < 24 then (if gQ C a 5 p = 2 then gQ C a 6 p else C.2.1 4 p) else C.2.1 4 p + gQ C a 7 (p - 24)
theorem c_tell_2 {a : Nat} (g : Nat → Int32) (k j : Nat) (C : CS) (hk : 32 < k + j) (hj : j ≤ 32) (hg : ∀ p, j ≤ p → p < 32 → g p = cNew a C p) : f_X3_tellValues_2 k a (nI j) C = some (0, cAF C 4 (rwm (C.2.1 4) j (32 - j) g)) := by
  induction k generalizing j C with
  | zero => omega
  | succ k ih =>
    rw [f_X3_tellValues_2]
    by_cases h : 32 ≤ j
    · rw [if_pos (show 32 ≤ nI j from np_ (a := 32) h (by omega) (by omega)), show 32 - j = 0 by omega, rwm_0, cAF_id]
    · rw [if_neg (show ¬ 32 ≤ nI j from nn (a := 32) h (by omega) (by omega)), if_pos (ck j 32 (by omega)), nc j (by omega)]
      have va : f_X0_valueAfter a (nI j) (C.2.1 4 j) C = some (cNew a C j, C) := by
        unfold f_X0_valueAfter cNew
        by_cases h24 : 24 ≤ j
        · rw [if_pos (show 24 ≤ nI j from np_ (a := 24) h24 (by omega) (by omega)), if_neg (show ¬ j < 24 by omega)]
          obtain ⟨i, rfl⟩ : ∃ i, j = i + 24 := ⟨j - 24, by omega⟩
          rw [show nI (i + 24) - 24 = nI i from by rw [show (24 : Int32) = nI 24 from rfl, ← nI_add]; exact Int32.add_sub_cancel _ _, if_pos (ck i 8 (by omega)), nc i (by omega), Nat.add_sub_cancel]
        · rw [if_neg (show ¬ 24 ≤ nI j from nn (a := 24) h24 (by omega) (by omega)), if_pos (ck j 24 (by omega)), nc j (by omega), if_pos (show j < 24 by omega)]
          by_cases q : gQ C a 5 j = 2
          · rw [if_pos q, if_pos q]
          · rw [if_neg q, if_neg q]
      rw [va, k_bs, k_ls, n1, nI_add, ih (j + 1) _ (by omega) (by omega) (fun p h1 h2 => ?_)]
      · obtain ⟨x, hx⟩ : ∃ x, 32 - j = x + 1 := ⟨31 - j, by omega⟩
        have e4 : (cAF C 4 (upd (C.2.1 4) j (cNew a C j))).2.1 4 = upd (C.2.1 4) j (cNew a C j) := by rw [cA_21, if_pos rfl]
        rw [e4, hx, show 32 - (j + 1) = x by omega, rwm_s (hg j (Nat.le_refl _) (by omega)).symm]
        simp only [cAF, va_upup]
      · rw [hg p (by omega) h2]
        unfold cNew
        have e4 : (cAF C 4 (upd (C.2.1 4) j (if j < 24 then (if gQ C a 5 j = 2 then gQ C a 6 j else C.2.1 4 j) else C.2.1 4 j + gQ C a 7 (j - 24)))).2.1 4 p = C.2.1 4 p := by
          rw [cA_21, if_pos rfl, upd_get, if_neg (by omega)]
        rw [e4]; rfl
theorem c_tell {a : Nat} (C : CS) : f_X3_tellValues a C = some (0, cAF C 4 (rwm (C.2.1 4) 0 32 (cNew a C))) := by
  exact c_tell_2 (cNew a C) 200 0 C (by omega) (by omega) (fun _ _ _ => rfl)
theorem cnt123 {M : MS} (n : Nat) : cntS M 1 n + cntS M 2 n + cntS M 3 n ≤ n := by
  induction n with
  | zero => exact Nat.le_refl _
  | succ n ih =>
    simp only [cntS]
    by_cases h1 : M.2.1 11 n = 1
    · rw [if_pos h1, if_neg (by rw [h1]; decide), if_neg (by rw [h1]; decide)]; omega
    · by_cases h2 : M.2.1 11 n = 2
      · rw [if_neg h1, if_pos h2, if_neg (by rw [h2]; decide)]; omega
      · rw [if_neg h1, if_neg h2]; split <;> omega
/-- while an act is begun not all are done -/
theorem d_lt {C : CS} {M : MS} {n t u d e kp fa a : Nat} (h : ∀ i, i ≠ 12 → RI C M n t u d e kp fa i) (ha : a < n) (hs : M.2.1 11 a = 1) : d < n := by
  have n80 : n ≤ 80 := (h 0 (by omega) : M.1 7 = nI n ∧ C.1 12 = nI n ∧ gN C = n ∧ n ≤ 80).2.2.2
  have hd := done_cnt (M := M) n d (fun i => (M.2.1 30 i).toNatClampNeg) (fun i hi => by
      obtain ⟨-, b, hb, eb, hbs⟩ := h 14 (by omega) i hi
      rw [eb, nc b (by omega)]; exact ⟨hb, hbs⟩) (fun i k hik hk q => by
      obtain ⟨-, b, hb, eb, -⟩ := h 14 (by omega) i (by omega)
      obtain ⟨-, b', hb', eb', -⟩ := h 14 (by omega) k hk
      have q : (M.2.1 30 i).toNatClampNeg = (M.2.1 30 k).toNatClampNeg := q
      rw [eb, eb', nc b (by omega), nc b' (by omega)] at q
      exact h 15 (by omega) i k hik hk (by rw [eb, eb', q])) (fun b hb hbs => by
      obtain ⟨i, hi, eb⟩ := h 16 (by omega) b hb hbs
      exact ⟨i, hi, by show (M.2.1 30 i).toNatClampNeg = b; rw [eb, nc b (by omega)]⟩)
  have h1 := inj_le (M := M) (h := 1) n 1 (fun _ => a) (fun _ _ => ⟨ha, hs⟩) (fun i j hij hj => by omega)
  have h2 := cnt123 (M := M) n
  omega
theorem vCell_d {M M' : MS} {c : Nat} (h23 : M'.2.1 23 = M.2.1 23) (h24 : M'.2.1 24 = M.2.1 24) (d : Nat) (h30 : ∀ i, i < d → M'.2.1 30 i = M.2.1 30 i) : vCell M' c d = vCell M c d := by
  induction d with
  | zero => rfl
  | succ d ih => simp only [vCell, h23, h24, h30 d (by omega), ih (fun i hi => h30 i (by omega))]
theorem vCnt_d {M M' : MS} {c : Nat} (h25 : M'.2.1 25 = M.2.1 25) (d : Nat) (h30 : ∀ i, i < d → M'.2.1 30 i = M.2.1 30 i) : vCnt M' c d = vCnt M c d := by
  induction d with
  | zero => rfl
  | succ d ih => simp only [vCnt, h25, h30 d (by omega), ih (fun i hi => h30 i (by omega))]
theorem mGet_1 {X : MS} {a c : Nat} (hc : c < 24) : (mGet a X).2.1 1 c = if X.2.1 23 (24 * a + c) = 3 then X.2.1 24 (24 * a + c) else X.2.1 1 c := by
  have e : (mGet a X).2.1 1 = rwm (X.2.1 1) 0 24 (fun c => if X.2.1 23 (24 * a + c) = 3 then X.2.1 24 (24 * a + c) else X.2.1 1 c) := rfl
  rw [e]; simp only [rwm]; rw [if_pos (show 0 ≤ c ∧ c < 0 + 24 by omega)]
theorem mGet_2 {X : MS} {a c : Nat} (hc : c < 8) : (mGet a X).2.1 2 c = X.2.1 2 c + X.2.1 25 (8 * a + c) := by
  have e : (mGet a X).2.1 2 = rwm (X.2.1 2) 0 8 (fun c => X.2.1 2 c + X.2.1 25 (8 * a + c)) := rfl
  rw [e]; simp only [rwm]; rw [if_pos (show 0 ≤ c ∧ c < 0 + 8 by omega)]
/-- the act a is done: what is left of the relation -/
theorem RIn_done {C C4 C5 : CS} {M M4 M5 : MS} {n t u d e kp fa a : Nat} (h : RIn a C M n t u d e kp fa) (ha : a < n) (hA11 : ∀ p, p < 80 → M.2.1 19 a = nI p → M.2.1 11 p = 2 ∨ M.2.1 11 p = 3) (hs : M.2.1 11 a = 1) (hC : CAL a C C4 e (enc (nI 2) (nI a) (-1) (nI t))) (hM : MAL a M M4 e (nI 2) (nI a) (-1)) (s4 : M4.2.1 11 a = 2) (p18 : gP C4 a 18 = nI e) (hD : (∀ c, c < 24 → (gQ C4 a 5 c = 2 ↔ M4.2.1 23 (24 * a + c) = 3) ∧ (M4.2.1 23 (24 * a + c) = 3 → gQ C4 a 6 c = M4.2.1 24 (24 * a + c))) ∧ (∀ c, c < 8 → gQ C4 a 7 c = M4.2.1 25 (8 * a + c))) (hb : e < 512000) (eC5 : C5 = (fun C6 : CS => cAF C6 4 (rwm (C6.2.1 4) 0 32 (cNew a C6))) (cN (cAF C4 7 (upd (C4.2.1 7) d (nI a))) 13 (nI (d + 1)))) (eM5 : M5 = mGet a (mI (mA M4 30 d (nI a)) 29 (nI (d + 1)))) : RIn a C5 M5 n t u (d + 1) (e + 1) kp fa := by
  obtain ⟨a1, a2, a3, a4, a5, a6, a7, a8, a9⟩ := hC
  obtain ⟨c1, c2, c3, c4, c5, c6, c7, c8, c9⟩ := hM
  obtain ⟨hr, hA⟩ := id h
  have hdn := d_lt hr ha hs
  obtain ⟨b1, b2, b3, b4⟩ : M.1 7 = nI n ∧ C.1 12 = nI n ∧ gN C = n ∧ n ≤ 80 := hr 0 (by omega)
  obtain ⟨t1, t2, t3⟩ : M.1 0 = nI t ∧ C.1 15 = nI t ∧ t ≤ 5000 := hr 1 (by omega)
  obtain ⟨k1, k2, k3⟩ : M.1 32 = nI kp ∧ C.1 22 = nI kp ∧ kp ≤ e := hr 4 (by omega)
  have m11 : M5.1 = upd (upd M.1 31 (nI (e + 1))) 29 (nI (d + 1)) := by rw [eM5, ← c1]; rfl
  have mro : ∀ k, k ≠ 1 → k ≠ 2 → k ≠ 30 → M5.2.1 k = M4.2.1 k := fun k h1 h2 h3 => by
    rw [eM5]; simp only [mGet, mR_get]; rw [if_neg h2, if_neg h1]; exact mA_ne h3
  have m30 : M5.2.1 30 = upd (M.2.1 30) d (nI a) := by
    rw [eM5, ← (by funext i; exact c2 30 i (by omega) (noAt (by omega)) : M4.2.1 30 = M.2.1 30)]; rfl
  have m22 : M5.2.2 = M4.2.2 := by rw [eM5]; rfl
  have cc1 : C5.1 = upd (upd C.1 21 (nI (e + 1))) 13 (nI (d + 1)) := by rw [eC5, ← a1]; rfl
  have cro : ∀ k, k ≠ 4 → k ≠ 7 → C5.2.1 k = C4.2.1 k := fun k h1 h2 => by
    rw [eC5]; show (cAF _ 4 _).2.1 k = _; rw [cA_21, if_neg h1]; show (cAF C4 7 _).2.1 k = _; rw [cA_21, if_neg h2]
  have cr7 : C5.2.1 7 = upd (C.2.1 7) d (nI a) := by rw [eC5, ← a2 7 (by omega)]; rfl
  have cN5 : gN C5 = gN C := by rw [eC5]; exact a5
  have cE5 : gE C5 = gE C4 := by rw [eC5]; rfl
  have cP5 : gP C5 = gP C4 := by rw [eC5]; rfl
  have cQ5 : gQ C5 = gQ C4 := by rw [eC5]; rfl
  have mr : ∀ k i, k ≠ 33 → k ≠ 1 → k ≠ 2 → k ≠ 30 → ¬ AtA k a i → M5.2.1 k i = M.2.1 k i := fun k i h1 h2 h3 h4 h5 => by
    rw [mro k h2 h3 h4]; exact c2 k i h1 h5
  have row : ∀ k, (k = 3 ∨ k = 4 ∨ k = 5 ∨ k = 6 ∨ k = 9 ∨ k = 10 ∨ k = 19 ∨ k = 21) → M5.2.1 k = M.2.1 k := fun k hk => by
    funext i; exact mr k i (by omega) (by omega) (by omega) (by omega) (noAt (by omega))
  have st : ∀ x, x ≠ a → M5.2.1 11 x = M.2.1 11 x := fun x hx => mr 11 x (by omega) (by omega) (by omega) (by omega) (noAt1 hx (by omega))
  have s5 : M5.2.1 11 a = 2 := by rw [mro 11 (by omega) (by omega) (by omega)]; exact s4
  have dne : ∀ x, (M.2.1 11 x = 2 ∨ M.2.1 11 x = 3) → x ≠ a := fun x q e2 => by
    subst e2; rw [hs] at q; rcases q with q | q <;> exact absurd q (by decide)
  have dn : ∀ i, i < d → ∃ b, b < 80 ∧ b ≠ a ∧ M.2.1 30 i = nI b := fun i hi => by
    obtain ⟨-, b, g1, g2, g3⟩ := hr 14 (by omega) i hi
    exact ⟨b, by omega, dne b g3, g2⟩
  have a30 : ∀ i, i < d → M5.2.1 30 i = M.2.1 30 i := fun i hi => by rw [m30, upd_get, if_neg (by omega)]
  have a30d : M5.2.1 30 d = nI a := by rw [m30, pk_us]
  have o33 : ∀ i j, i < e → j < 4 → M5.2.1 33 (4 * i + j) = M.2.1 33 (4 * i + j) := fun i j hi hj => by rw [mro 33 (by omega) (by omega) (by omega)]; exact c3 _ (by omega)
  have o330 : ∀ i, i < e → M5.2.1 33 (4 * i) = M.2.1 33 (4 * i) := fun i hi => by rw [mro 33 (by omega) (by omega) (by omega)]; exact c3 _ (by omega)
  have e33 : M5.2.1 33 = M4.2.1 33 := mro 33 (by omega) (by omega) (by omega)
  have oP : ∀ b, b ≠ a → gP C5 b = gP C b := fun b hb => by rw [cP5]; exact (a9 b hb).1
  have oQ : ∀ b, b ≠ a → gQ C5 b = gQ C b := fun b hb => by rw [cQ5]; exact (a9 b hb).2
  refine ⟨fun i hi => ?_, fun b hbn hba i => ?_⟩
  · match i with
    | 0 => exact ⟨by rw [m11]; exact b1, by rw [cc1]; exact b2, by rw [cN5]; exact b3, b4⟩
    | 1 => exact ⟨by rw [m11]; exact t1, by rw [cc1]; exact t2, t3⟩
    | 2 => exact ⟨by rw [m11]; rfl, by rw [cc1]; rfl, by omega⟩
    | 3 => exact ⟨by rw [m11]; rfl, by rw [cc1]; rfl, by rw [m22]; exact c8, by rw [m22]; exact c9, by rw [cE5]; exact a7, by rw [cE5]; exact a6⟩
    | 4 => exact ⟨by rw [m11]; exact k1, by rw [cc1]; exact k2, by omega⟩
    | 5 => simp only [RI, m11, cc1]; exact hr 5 (by omega)
    | 6 => simp only [RI, cro 1 (by omega) (by omega), a2 1 (by omega), row 5 (by omega)]; exact hr 6 (by omega)
    | 7 => simp only [RI, cro 0 (by omega) (by omega), a2 0 (by omega), row 6 (by omega)]; exact hr 7 (by omega)
    | 8 => simp only [RI, cro 2 (by omega) (by omega), a2 2 (by omega), row 4 (by omega)]; exact hr 8 (by omega)
    | 9 => simp only [RI, cro 3 (by omega) (by omega), a2 3 (by omega), row 3 (by omega)]; exact hr 9 (by omega)
    | 10 =>
      intro c hc
      obtain ⟨v1, v2⟩ := hr 10 (by omega) c hc
      have r1 : M4.2.1 1 c = M.2.1 1 c := c2 1 c (by omega) (noAt (by omega))
      have r4 : C4.2.1 4 = C.2.1 4 := a2 4 (by omega)
      have eC : C5.2.1 4 c = if gQ C4 a 5 c = 2 then gQ C4 a 6 c else C.2.1 4 c := by
        rw [eC5]
        show rwm (C4.2.1 4) 0 32 (cNew a _) c = _
        simp only [rwm]
        rw [if_pos (by omega)]
        unfold cNew
        rw [if_pos hc, ← r4]; rfl
      have eM : M5.2.1 1 c = if M4.2.1 23 (24 * a + c) = 3 then M4.2.1 24 (24 * a + c) else M4.2.1 1 c := by
        rw [eM5, mGet_1 hc]; rfl
      have eV : vCell M5 c (d + 1) = if M4.2.1 23 (24 * a + c) = 3 then M4.2.1 24 (24 * a + c) else M.2.1 1 c := by
        simp only [vCell]
        rw [a30d, nc a (by omega), mro 23 (by omega) (by omega) (by omega), mro 24 (by omega) (by omega) (by omega), vCell_d (M := M4) (mro 23 (by omega) (by omega) (by omega)) (mro 24 (by omega) (by omega) (by omega)) d (fun i hi => by rw [a30 i hi]; exact (c2 30 i (by omega) (noAt (by omega))).symm), vCell_o hc c2 d dn, ← v2]
      obtain ⟨d1, d2⟩ := hD.1 c hc
      rw [eC, eM, eV, r1]
      by_cases z : M4.2.1 23 (24 * a + c) = 3
      · rw [if_pos (d1.mpr z), if_pos z]; exact ⟨d2 z, rfl⟩
      · rw [if_neg (fun x => z (d1.mp x)), if_neg z]; exact ⟨v1, rfl⟩
    | 11 =>
      intro c hc
      obtain ⟨v1, v2⟩ := hr 11 (by omega) c hc
      have r1 : M4.2.1 2 c = M.2.1 2 c := c2 2 c (by omega) (noAt (by omega))
      have r4 : C4.2.1 4 = C.2.1 4 := a2 4 (by omega)
      have eC : C5.2.1 4 (24 + c) = C.2.1 4 (24 + c) + gQ C4 a 7 c := by
        rw [eC5]
        show rwm (C4.2.1 4) 0 32 (cNew a _) (24 + c) = _
        simp only [rwm]
        rw [if_pos (by omega)]
        unfold cNew
        rw [if_neg (by omega), ← r4, show 24 + c - 24 = c by omega]; rfl
      have eM : M5.2.1 2 c = M4.2.1 2 c + M4.2.1 25 (8 * a + c) := by
        rw [eM5, mGet_2 hc]; rfl
      have eV : vCnt M5 c (d + 1) = M.2.1 2 c + M4.2.1 25 (8 * a + c) := by
        simp only [vCnt]
        rw [a30d, nc a (by omega), mro 25 (by omega) (by omega) (by omega), vCnt_d (M := M4) (mro 25 (by omega) (by omega) (by omega)) d (fun i hi => by rw [a30 i hi]; exact (c2 30 i (by omega) (noAt (by omega))).symm), vCnt_o hc c2 d dn, ← v2]
      rw [eC, eM, eV, r1, v1, hD.2 c hc]
      exact ⟨rfl, rfl⟩
    | 12 => exact absurd rfl hi
    | 13 => simp only [RI, cro 6 (by omega) (by omega), a2 6 (by omega), ahd_c (row 10 (by omega))]; exact hr 13 (by omega)
    | 14 =>
      intro i hi
      rw [m30, cr7, upd_get, upd_get]
      by_cases q : i = d
      · rw [if_pos q, if_pos q]; exact ⟨rfl, a, ha, rfl, Or.inl s5⟩
      · rw [if_neg q, if_neg q]
        obtain ⟨g1, b, g2, g3, g4⟩ := hr 14 (by omega) i (by omega)
        exact ⟨g1, b, g2, g3, by rw [st b (dne b g4)]; exact g4⟩
    | 15 =>
      intro i j hij hj
      by_cases q : j = d
      · rw [q, a30d, a30 i (by omega)]
        obtain ⟨b, g1, g2, g3⟩ := dn i (by omega)
        rw [g3]; exact fun x => g2 ((nIeq (a := b) (b := a) (by omega) (by omega)).mp x)
      · rw [a30 i (by omega), a30 j (by omega)]; exact hr 15 (by omega) i j hij (by omega)
    | 16 =>
      intro b hbn q
      by_cases e2 : b = a
      · exact ⟨d, by omega, by rw [a30d, e2]⟩
      · rw [st b e2] at q
        obtain ⟨i, g1, g2⟩ := hr 16 (by omega) b hbn q
        exact ⟨i, by omega, by rw [a30 i g1]; exact g2⟩
    | 17 =>
      intro i hi
      rw [cro 20 (by omega) (by omega)]
      by_cases ei : i = e
      · subst ei
        rw [e33]
        refine ⟨2, a, t, by omega, by omega, t3, c4, c5, by rw [c6]; exact Or.inl rfl, by rw [c7]; exact t1, ?_⟩
        rw [a4, c4, c5, c6, c7, t1]
      · obtain ⟨k1, x1, s1, g1, g2, g3, g4, g5, g6, g7, g8⟩ := hr 17 (by omega) i (by omega)
        have i3 : i < e := by omega
        rw [o330 i i3, o33 i 1 i3 (by omega), o33 i 2 i3 (by omega), o33 i 3 i3 (by omega), a3 i i3]
        exact ⟨k1, x1, s1, g1, g2, g3, g4, g5, g6, g7, g8⟩
    | 18 =>
      intro b hbn q
      by_cases eb : b = a
      · subst eb
        exact ⟨e, k3, by omega, by rw [cP5]; exact p18, by rw [e33]; exact c4, by rw [e33]; exact c5⟩
      · rw [st b eb] at q; rw [oP b eb]
        obtain ⟨i, g1, g2, g3, g4, g5⟩ := hr 18 (by omega) b hbn q
        exact ⟨i, g1, by omega, g3, by rw [o330 i g2]; exact g4, by rw [o33 i 1 g2 (by omega)]; exact g5⟩
    | 19 =>
      intro j j1 j2 j3
      by_cases ej : j = e
      · subst ej
        exact ⟨a, ha, by rw [e33]; exact c5, s5, by rw [cP5]; exact p18⟩
      · rw [o330 j (by omega)] at j3
        rw [o33 j 1 (by omega) (by omega)]
        obtain ⟨x, x1, x2, x3, x4⟩ := hr 19 (by omega) j j1 (by omega) j3
        have xa : x ≠ a := dne x (Or.inl x3)
        exact ⟨x, x1, x2, by rw [st x xa]; exact x3, by rw [oP x xa]; exact x4⟩
    | 20 =>
      intro j j1 j2 j3
      by_cases ej : j = e
      · subst ej
        rw [e33, c4] at j3; exact absurd j3 (by decide)
      · rw [o330 j (by omega)] at j3
        rw [o33 j 1 (by omega) (by omega)]
        obtain ⟨x, x1, x2, x3, x4, x5⟩ := hr 20 (by omega) j j1 (by omega) j3
        have xa : x ≠ a := fun q => by subst q; rw [hs] at x3; exact absurd x3 (by decide)
        exact ⟨x, x1, x2, by rw [st x xa]; exact x3, by rw [oP x xa]; exact x4, by rw [row 21 (by omega)]; exact x5⟩
    | 21 =>
      intro b hbn q
      by_cases eb : b = a
      · subst eb; rw [s5] at q; exact absurd q (by decide)
      · rw [st b eb] at q; rw [oP b eb]
        rcases hr 21 (by omega) b hbn q with g | ⟨i, g1, g2, g3⟩
        · exact Or.inl g
        · right
          refine ⟨i, by omega, g2, fun g4 => ?_⟩
          rw [o330 i g1, o33 i 1 g1 (by omega)]; exact g3 g4
    | 22 =>
      intro i j x y p q hij hj hx hx8 hy hy8 hs2
      rw [a30 i (by omega)] at hx
      have id30 : ∀ (i x : Nat), i < d → M.2.1 30 i = nI x → x < 80 → x ≠ a ∧ x < n := fun i x hi hx h8 => by
        obtain ⟨-, b, g1, g2, g3⟩ := hr 14 (by omega) i hi
        have := (nIeq (a := x) (b := b) (by omega) (by omega)).mp (hx.symm.trans g2)
        subst this; exact ⟨dne _ g3, g1⟩
      obtain ⟨x1, x2⟩ := id30 i x (by omega) hx hx8
      rw [st x x1] at hs2
      obtain ⟨i1, -, j1, j2, -⟩ := hr 18 (by omega) x x2 hs2
      rw [oP x x1]
      by_cases q2 : j = d
      · rw [q2, a30d] at hy
        have ya := (nIeq (a := a) (b := y) (by omega) (by omega)).mp hy
        subst ya
        refine ⟨s5, fun k1 k2 k3 k4 => ?_⟩
        rw [cP5, p18] at k3
        have e1 := (nIeq (a := p) (b := i1) (by omega) (by omega)).mp (k1.symm.trans j2)
        have e2 := (nIeq (a := e) (b := q) (by omega) (by omega)).mp k3
        omega
      · rw [a30 j (by omega)] at hy
        obtain ⟨y1, y2⟩ := id30 j y (by omega) hy hy8
        rw [st y y1, oP y y1]
        obtain ⟨g1, g2⟩ := hr 22 (by omega) i j x y p q hij (by omega) hx hx8 hy hy8 hs2
        refine ⟨g1, fun k1 k2 k3 k4 => ?_⟩
        obtain ⟨i2, -, j3, j4, -⟩ := hr 18 (by omega) y y2 g1
        have e1 := (nIeq (a := p) (b := i1) (by omega) (by omega)).mp (k1.symm.trans j2)
        have e2 := (nIeq (a := q) (b := i2) (by omega) (by omega)).mp (k3.symm.trans j4)
        exact g2 k1 (by omega) k3 (by omega)
    | 23 =>
      intro j b p hj hy hb8 hp hp8
      rw [row 19 (by omega)] at hp
      by_cases q2 : j = d
      · rw [q2, a30d] at hy
        have ya := (nIeq (a := a) (b := b) (by omega) (by omega)).mp hy
        subst ya
        have hpp := hA11 p hp8 hp
        have hpn : p < n := Classical.byContradiction (fun q => by
          have := (hr 25 (by omega) p (by omega) hp8).1
          rw [this] at hpp; rcases hpp with q | q <;> exact absurd q (by decide))
        obtain ⟨i, g1, g2⟩ := hr 16 (by omega) p hpn hpp
        exact ⟨i, by omega, by rw [a30 i g1]; exact g2⟩
      · rw [a30 j (by omega)] at hy
        obtain ⟨i, g1, g2⟩ := hr 23 (by omega) j b p (by omega) hy hb8 hp hp8
        exact ⟨i, g1, by rw [a30 i (by omega)]; exact g2⟩
    | 24 =>
      intro k hk
      refine Nat.le_trans (cntK_le (fun x y => ?_) (row 9 (by omega)) n) (hr 24 (by omega) k hk)
      by_cases e2 : x = a
      · rw [e2]; exact hs
      · rw [← st x e2]; exact y
    | 25 =>
      intro b hbn hb8
      rw [st b (by omega), mr 18 b (by omega) (by omega) (by omega) (by omega) (noAt1 (by omega) (by omega)), row 21 (by omega), mr 16 b (by omega) (by omega) (by omega) (by omega) (noAt1 (by omega) (by omega))]
      exact hr 25 (by omega) b hbn hb8
    | k + 26 => trivial
  · have h1 : RA C4 M4 u b i := RA_oth hba (a9 b hba).1 (a9 b hba).2 c2 (fun p hp q => by rw [c2 11 p (by omega) (noAt1 (dne p q) (by omega))]; exact q) i (hA b hbn hba i)
    exact RA_tr (by rw [cP5]) (by rw [cQ5]) (fun k h1 h2 => mro k (by omega) (by omega) (by omega)) i h1
