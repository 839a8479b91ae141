/-! ===== one act changes, perhaps with an entry more in the log: the frame ===== -/
def AtA (k a i : Nat) : Prop := ((k = 13 ∨ k = 27) ∧ 12 * a ≤ i ∧ i < 12 * a + 12) ∨ ((k = 23 ∨ k = 24) ∧ 24 * a ≤ i ∧ i < 24 * a + 24) ∨ ((k = 25 ∨ k = 26) ∧ 8 * a ≤ i ∧ i < 8 * a + 8) ∨ ((k = 11 ∨ k = 12 ∨ k = 14 ∨ k = 15 ∨ k = 16 ∨ k = 17 ∨ k = 18 ∨ k = 20 ∨ k = 28) ∧ i = a)
theorem noAt {k a i : Nat} (h : k ≤ 10 ∨ k = 19 ∨ k = 21 ∨ k = 22 ∨ 29 ≤ k) : ¬ AtA k a i := by
  unfold AtA; omega
theorem noAt1 {k a i : Nat} (h : i ≠ a) (hk : k ≠ 13 ∧ k ≠ 27 ∧ k ≠ 23 ∧ k ≠ 24 ∧ k ≠ 25 ∧ k ≠ 26) : ¬ AtA k a i := by
  unfold AtA; omega
theorem noAt12 {k a b j : Nat} (h : b ≠ a) (hk : k = 13 ∨ k = 27) (hj : j < 12) : ¬ AtA k a (12 * b + j) := by
  unfold AtA; omega
theorem noAt24 {k a b j : Nat} (h : b ≠ a) (hk : k = 23 ∨ k = 24) (hj : j < 24) : ¬ AtA k a (24 * b + j) := by
  unfold AtA; omega
theorem noAt8 {k a b j : Nat} (h : b ≠ a) (hk : k = 25 ∨ k = 26) (hj : j < 8) : ¬ AtA k a (8 * b + j) := by
  unfold AtA; omega
def MA (a : Nat) (M M' : MS) : Prop := M'.1 = M.1 ∧ M'.2.2 = M.2.2 ∧ ∀ k i, ¬ AtA k a i → M'.2.1 k i = M.2.1 k i
theorem MA_rf (a : Nat) (M : MS) : MA a M M := ⟨rfl, rfl, fun _ _ _ => rfl⟩
theorem MA_tr {a : Nat} {M M1 M2 : MS} (h1 : MA a M M1) (h2 : MA a M1 M2) : MA a M M2 := ⟨h2.1.trans h1.1, h2.2.1.trans h1.2.1, fun k i h => (h2.2.2 k i h).trans (h1.2.2 k i h)⟩
theorem MA_R {a k : Nat} {M : MS} {f : Nat → Int32} (hf : ∀ i, ¬ AtA k a i → f i = M.2.1 k i) : MA a M (mR M k f) := ⟨rfl, rfl, fun j i h => by
  rw [mR_get]
  by_cases e : j = k
  · subst e; rw [if_pos rfl]; exact hf i h
  · rw [if_neg e]⟩
theorem MA_A {a k j : Nat} {M : MS} {v : Int32} (hk : AtA k a j) : MA a M (mA M k j v) := by
  rw [mA_R]; exact MA_R (fun i h => by rw [upd_get]; exact if_neg (fun e => h (by rw [e]; exact hk)))
theorem MA_a {a k : Nat} {M : MS} {v : Int32} (hk : k = 11 ∨ k = 12 ∨ k = 14 ∨ k = 15 ∨ k = 16 ∨ k = 17 ∨ k = 18 ∨ k = 20 ∨ k = 28) : MA a M (mA M k a v) := MA_A (Or.inr (Or.inr (Or.inr ⟨hk, rfl⟩)))
theorem rwm_no {f g : Nat → Int32} {s n k a : Nat} (hk : ∀ i, s ≤ i → i < s + n → AtA k a i) (i : Nat) (h : ¬ AtA k a i) : rwm f s n g i = f i := by
  simp only [rwm]; exact if_neg (fun q => h (hk i q.1 q.2))
theorem upd_no {f : Nat → Int32} {v : Int32} {k a : Nat} (hk : k = 11 ∨ k = 12 ∨ k = 14 ∨ k = 15 ∨ k = 16 ∨ k = 17 ∨ k = 18 ∨ k = 20 ∨ k = 28) (i : Nat) (h : ¬ AtA k a i) : upd f a v i = f i := by
  rw [upd_get]; exact if_neg (fun e => h (Or.inr (Or.inr (Or.inr ⟨hk, e⟩))))
theorem MA_clr (a : Nat) (M : MS) : MA a M (mClr a M) := by
  unfold mClr mClr4
  refine MA_tr (MA_tr (MA_tr (MA_tr (MA_tr (MA_tr (MA_R (k := 23) (fun i h => ?_)) (MA_R (k := 25) (fun i h => ?_))) (MA_R (k := 26) (fun i h => ?_))) (MA_R (k := 28) (fun i h => ?_))) (MA_R (k := 15) (fun i h => ?_))) (MA_R (k := 14) (fun i h => ?_))) (MA_R (k := 16) (fun i h => ?_))
  · exact rwm_no (k := 23) (a := a) (fun i h1 h2 => Or.inr (Or.inl ⟨Or.inl rfl, h1, h2⟩)) i h
  · exact rwm_no (k := 25) (a := a) (fun i h1 h2 => Or.inr (Or.inr (Or.inl ⟨Or.inl rfl, h1, h2⟩))) i h
  · exact rwm_no (k := 26) (a := a) (fun i h1 h2 => Or.inr (Or.inr (Or.inl ⟨Or.inr rfl, h1, h2⟩))) i h
  · exact upd_no (k := 28) (by omega) i h
  · exact upd_no (k := 15) (by omega) i h
  · exact upd_no (k := 14) (by omega) i h
  · exact upd_no (k := 16) (by omega) i h
theorem MA_let (a : Nat) (M : MS) : MA a M (mLet a M) := by
  unfold mLet
  refine MA_tr (MA_R (k := 23) (fun i h => ?_)) (MA_R (k := 16) (fun i h => ?_))
  · exact rwm_no (k := 23) (a := a) (fun i h1 h2 => Or.inr (Or.inl ⟨Or.inl rfl, h1, h2⟩)) i h
  · exact upd_no (k := 16) (by omega) i h
def CA (a : Nat) (C C' : CS) : Prop := cSame C C' ∧ ∀ b, b ≠ a → gP C' b = gP C b ∧ gQ C' b = gQ C b
theorem CA_rf (a : Nat) (C : CS) : CA a C C := ⟨cSame_rf C, fun _ _ => ⟨rfl, rfl⟩⟩
theorem CA_tr {a : Nat} {A B C : CS} (h1 : CA a A B) (h2 : CA a B C) : CA a A C := ⟨cSame_tr h1.1 h2.1, fun b hb => ⟨(h2.2 b hb).1.trans (h1.2 b hb).1, (h2.2 b hb).2.trans (h1.2 b hb).2⟩⟩
theorem CA_P {a k : Nat} {C : CS} {v : Int32} : CA a C (cP C a k v) := ⟨cSame_P C a k v, fun b hb => ⟨by funext j; rw [cP_P, if_neg (fun q => hb q.1)], rfl⟩⟩
theorem CA_Q {a k : Nat} {C : CS} {f : Nat → Int32} : CA a C (cQF C a k f) := ⟨cSame_Q C a k f, fun b hb => ⟨rfl, by funext j; rw [cQ_Q, if_neg (fun q => hb q.1)]⟩⟩
theorem CA_leave {a : Nat} {C : CS} {v : Int32} : CA a C (cLeave a v C) := ⟨cLeave_same a v C, fun b hb => ⟨by funext j; rw [cLeave_P, if_neg hb], by funext j; rw [cLeave_Q, if_neg hb]⟩⟩
def mLg (M M' : MS) (e : Nat) (x y z : Int32) : Prop := M'.1 = upd M.1 31 (nI (e + 1)) ∧ (∀ k, k ≠ 33 → M'.2.1 k = M.2.1 k) ∧ (∀ j, j < 4 * e → M'.2.1 33 j = M.2.1 33 j) ∧ M'.2.1 33 (4 * e) = x ∧ M'.2.1 33 (4 * e + 1) = y ∧ M'.2.1 33 (4 * e + 2) = z ∧ M'.2.1 33 (4 * e + 3) = M.1 0 ∧ 4 * (e + 1) ≤ M'.2.2 ∧ lnOK M'.2.2
theorem m_logs2 {M : MS} {e : Nat} {x y z : Int32} (he : M.1 31 = nI e) (h4 : 4 * e ≤ M.2.2) (hl : lnOK M.2.2) (hb : e < 512000) : ∃ M' : MS, f_X4_logs x y z M = some (0, M') ∧ mLg M M' e x y z := m_logs he h4 hl hb
def MAL (a : Nat) (M M' : MS) (e : Nat) (x y z : Int32) : Prop := M'.1 = upd M.1 31 (nI (e + 1)) ∧ (∀ k i, k ≠ 33 → ¬ AtA k a i → M'.2.1 k i = M.2.1 k i) ∧ (∀ j, j < 4 * e → M'.2.1 33 j = M.2.1 33 j) ∧ M'.2.1 33 (4 * e) = x ∧ M'.2.1 33 (4 * e + 1) = y ∧ M'.2.1 33 (4 * e + 2) = z ∧ M'.2.1 33 (4 * e + 3) = M.1 0 ∧ 4 * (e + 1) ≤ M'.2.2 ∧ lnOK M'.2.2
theorem MAL_of {a e : Nat} {M M1 M2 M' : MS} {x y z : Int32} (h1 : MA a M M1) (h2 : mLg M1 M2 e x y z) (h3 : MA a M2 M') : MAL a M M' e x y z := by
  obtain ⟨a1, a2, a3⟩ := h1
  obtain ⟨b1, b2, b3, b4, b5, b6, b7, b8, b9⟩ := h2
  obtain ⟨c1, c2, c3⟩ := h3
  have n33 : ∀ i, ¬ AtA 33 a i := fun i => noAt (by omega)
  refine ⟨by rw [c1, b1, a1], fun k i hk h => by rw [c3 k i h, b2 k hk, a3 k i h], fun j hj => by rw [c3 33 j (n33 j), b3 j hj, a3 33 j (n33 j)], by rw [c3 33 _ (n33 _), b4], by rw [c3 33 _ (n33 _), b5], by rw [c3 33 _ (n33 _), b6], by rw [c3 33 _ (n33 _), b7, a1], by rw [c2]; exact b8, by rw [c2]; exact b9⟩
def CAL (a : Nat) (C C' : CS) (e : Nat) (v : Int32) : Prop := C'.1 = upd C.1 21 (nI (e + 1)) ∧ (∀ k, k ≠ 20 → C'.2.1 k = C.2.1 k) ∧ (∀ j, j < e → C'.2.1 20 j = C.2.1 20 j) ∧ C'.2.1 20 e = v ∧ gN C' = gN C ∧ isE (gE C') ∧ e + 1 ≤ gE C' ∧ C'.2.2.1 = C.2.2.1 ∧ ∀ b, b ≠ a → gP C' b = gP C b ∧ gQ C' b = gQ C b
theorem CAL_of {a e : Nat} {C C1 C2 C' : CS} {v : Int32} (h1 : CA a C C1) (h2 : cLog C1 C2 e v) (h3 : CA a C2 C') : CAL a C C' e v := by
  obtain ⟨⟨a1, a2, a3, a4, a5⟩, a6⟩ := h1
  obtain ⟨b1, b2, b3, b4, b5, b6, b7, b8, b9, b10⟩ := h2
  obtain ⟨⟨c1, c2, c3, c4, c5⟩, c6⟩ := h3
  refine ⟨by rw [c1, b1, a1], fun k hk => by rw [c2, b2 k hk, a2], fun j hj => by rw [c2, b3 j hj, a2], by rw [c2, b4], by rw [c5, b6, a5], by rw [c4]; exact b9, by rw [c4]; exact b10, by rw [c3, b5, a3], fun b hb => ⟨by rw [(c6 b hb).1, b7, (a6 b hb).1], by rw [(c6 b hb).2, b8, (a6 b hb).2]⟩⟩
/-- another act than the one that changes -/
theorem RA_oth {C C' : CS} {M M' : MS} {u a b : Nat} (hb : b ≠ a) (hP : gP C' b = gP C b) (hQ : gQ C' b = gQ C b) (mr : ∀ k i, k ≠ 33 → ¬ AtA k a i → M'.2.1 k i = M.2.1 k i) (h23 : ∀ p, p < 80 → (M.2.1 11 p = 2 ∨ M.2.1 11 p = 3) → (M'.2.1 11 p = 2 ∨ M'.2.1 11 p = 3)) (i : Nat) (h : RA C M u b i) : RA C' M' u b i := by
  have r : ∀ k, k ≠ 33 → (k ≠ 13 ∧ k ≠ 27 ∧ k ≠ 23 ∧ k ≠ 24 ∧ k ≠ 25 ∧ k ≠ 26) → M'.2.1 k b = M.2.1 k b := fun k h1 h2 => mr k b h1 (noAt1 hb h2)
  have e11 := r 11 (by omega) (by omega)
  match i with
  | 0 => simp only [RA, hP, r 8 (by omega) (by omega)]; exact h
  | 1 => simp only [RA, hP, r 9 (by omega) (by omega)]; exact h
  | 2 => simp only [RA, hP, r 10 (by omega) (by omega)]; exact h
  | 3 => simp only [RA, hP, r 19 (by omega) (by omega)]; exact h
  | 4 => simp only [RA, hP, e11]; exact h
  | 5 => simp only [RA, hP, r 20 (by omega) (by omega), r 17 (by omega) (by omega), r 18 (by omega) (by omega)]; exact h
  | 6 =>
    intro hs
    rw [e11] at hs
    obtain ⟨l, s, q, g1, g2, g3, g4, g5, g6, g7, g8, g9, g10, g11, g12, g13, g14, g15, g16⟩ := h hs
    refine ⟨l, s, q, g1, by rw [r 12 (by omega) (by omega)]; exact g2, by rw [hP]; exact g3, g4, by rw [r 14 (by omega) (by omega)]; exact g5, by rw [hP]; exact g6, g7, by rw [r 28 (by omega) (by omega)]; exact g8, by rw [hP]; exact g9, by rw [hP, r 15 (by omega) (by omega)]; exact g10, by rw [r 15 (by omega) (by omega)]; exact g11, by rw [r 15 (by omega) (by omega)]; exact g12, fun j hj => ?_, fun j hj => ?_, fun c hc => ?_, fun c hc => ?_⟩
    · rw [hQ, mr 13 _ (by omega) (noAt12 hb (by omega) (by omega))]; exact g13 j hj
    · rw [hQ, mr 27 _ (by omega) (noAt12 hb (by omega) (by omega))]; exact g14 j hj
    · rw [hQ, mr 23 _ (by omega) (noAt24 hb (by omega) (by omega)), mr 24 _ (by omega) (noAt24 hb (by omega) (by omega))]; exact g15 c hc
    · rw [hQ, mr 25 _ (by omega) (noAt8 hb (by omega) (by omega)), mr 26 _ (by omega) (noAt8 hb (by omega) (by omega))]; exact g16 c hc
  | 7 =>
    intro hs
    rw [e11] at hs
    obtain ⟨g1, g2, g3⟩ := h hs
    refine ⟨fun c hc => ?_, fun c hc => ?_, by rw [r 17 (by omega) (by omega)]; exact g3⟩
    · rw [hQ, mr 23 _ (by omega) (noAt24 hb (by omega) (by omega)), mr 24 _ (by omega) (noAt24 hb (by omega) (by omega))]; exact g1 c hc
    · rw [hQ, mr 25 _ (by omega) (noAt8 hb (by omega) (by omega))]; exact g2 c hc
  | 8 => simp only [RA, hP, hQ, e11]; exact h
  | 9 => simp only [RA, hP]; exact h
  | 10 => simp only [RA, hP, e11, r 21 (by omega) (by omega)]; exact h
  | 11 =>
    intro p hp hpe
    rw [r 19 (by omega) (by omega)] at hpe
    rw [r 21 (by omega) (by omega)]
    rcases h p hp hpe with q | q
    · exact Or.inl q
    · exact Or.inr (h23 p hp q)
  | 12 => simp only [RA, e11, r 17 (by omega) (by omega)]; exact h
  | k + 13 => trivial
/-- the relation, but for what it says of the act a itself -/
def RIn (a : Nat) (C : CS) (M : MS) (n t u d e kp fa : Nat) : Prop := (∀ i, i ≠ 12 → RI C M n t u d e kp fa i) ∧ ∀ b, b < n → b ≠ a → ∀ i, RA C M u b i
theorem RIn_of {a : Nat} {C : CS} {M : MS} {n t u d e kp fa : Nat} (h : ∀ i, RI C M n t u d e kp fa i) : RIn a C M n t u d e kp fa := ⟨fun i _ => h i, fun b hb _ => h 12 b hb⟩
theorem RI_of {a : Nat} {C : CS} {M : MS} {n t u d e kp fa : Nat} (h : RIn a C M n t u d e kp fa) (hA : ∀ i, RA C M u a i) : ∀ i, RI C M n t u d e kp fa i := by
  intro i
  by_cases q : i = 12
  · subst q
    intro b hb
    by_cases e : b = a
    · subst e; exact hA
    · exact h.2 b hb e
  · exact h.1 i q
theorem vCell_o {M M' : MS} {a c : Nat} (hc : c < 24) (mr : ∀ k i, k ≠ 33 → ¬ AtA k a i → M'.2.1 k i = M.2.1 k i) (d : Nat) (hd : ∀ i, i < d → ∃ b, b < 80 ∧ b ≠ a ∧ M.2.1 30 i = nI b) : vCell M' c d = vCell M c d := by
  induction d with
  | zero => rfl
  | succ d ih =>
    obtain ⟨b, h1, h2, h3⟩ := hd d (by omega)
    simp only [vCell, mr 30 d (by omega) (noAt (by omega)), h3, nc b (by omega), mr 23 (24 * b + c) (by omega) (noAt24 h2 (by omega) hc), mr 24 (24 * b + c) (by omega) (noAt24 h2 (by omega) hc), ih (fun i hi => hd i (by omega))]
theorem vCnt_o {M M' : MS} {a c : Nat} (hc : c < 8) (mr : ∀ k i, k ≠ 33 → ¬ AtA k a i → M'.2.1 k i = M.2.1 k i) (d : Nat) (hd : ∀ i, i < d → ∃ b, b < 80 ∧ b ≠ a ∧ M.2.1 30 i = nI b) : vCnt M' c d = vCnt M c d := by
  induction d with
  | zero => rfl
  | succ d ih =>
    obtain ⟨b, h1, h2, h3⟩ := hd d (by omega)
    simp only [vCnt, mr 30 d (by omega) (noAt (by omega)), h3, nc b (by omega), mr 25 (8 * b + c) (by omega) (noAt8 h2 (by omega) hc), ih (fun i hi => hd i (by omega))]
/-- what one act's change leaves alone -/
theorem RIn_gen {C C' : CS} {M M' : MS} {n t u d e e' kp fa a : Nat} (h : RIn a C M n t u d e kp fa) (ha : a < n) (hs : M.2.1 11 a = 0 ∨ M.2.1 11 a = 1) (hs' : M'.2.1 11 a = 0 ∨ M'.2.1 11 a = 1 ∨ M'.2.1 11 a = 4) (cr : ∀ k, k ≠ 20 → C'.2.1 k = C.2.1 k) (co : ∀ b, b ≠ a → gP C' b = gP C b ∧ gQ C' b = gQ C b) (mr : ∀ k i, k ≠ 33 → ¬ AtA k a i → M'.2.1 k i = M.2.1 k i) (h24 : ∀ k, k < 4 → cntK M' k n ≤ 9) (h0 : ∀ i, i ≤ 5 → RI C' M' n t u d e' kp fa i) (h17 : ∀ i, 17 ≤ i → i ≤ 21 → RI C' M' n t u d e' kp fa i) (he : e' < 2147483648) (hee : e ≤ e') : RIn a C' M' n t u d e' kp fa := by
  obtain ⟨hr, hA⟩ := h
  obtain ⟨b1, b2, b3, b4⟩ : M.1 7 = nI n ∧ C.1 12 = nI n ∧ gN C = n ∧ n ≤ 80 := hr 0 (by omega)
  have row : ∀ k, (k ≤ 10 ∨ k = 19 ∨ k = 21 ∨ k = 22 ∨ (29 ≤ k ∧ k ≠ 33)) → M'.2.1 k = M.2.1 k := fun k hk => by
    funext i; exact mr k i (by omega) (noAt (by omega))
  have st : ∀ x, x ≠ a → M'.2.1 11 x = M.2.1 11 x := fun x hx => mr 11 x (by omega) (noAt1 hx (by omega))
  have no2 : ∀ x : Int32, (x = 0 ∨ x = 1) → ¬ (x = 2 ∨ x = 3) := fun x q => by rcases q with q | q <;> (subst q; decide)
  have no2' : ∀ x : Int32, (x = 0 ∨ x = 1 ∨ x = 4) → ¬ (x = 2 ∨ x = 3) := fun x q => by rcases q with q | q | q <;> (subst q; decide)
  have dne : ∀ x, (M.2.1 11 x = 2 ∨ M.2.1 11 x = 3) → x ≠ a := fun x q e2 => by subst e2; exact no2 _ hs q
  have dn : ∀ i, i < d → ∃ b, b < 80 ∧ b ≠ a ∧ M.2.1 30 i = nI b := fun i hi => by
    obtain ⟨-, b, g1, g2, g3⟩ := hr 14 (by omega) i hi
    exact ⟨b, by omega, dne b g3, g2⟩
  refine ⟨fun i hi => ?_, fun b hb hba i => RA_oth hba (co b hba).1 (co b hba).2 mr (fun p hp q => by rw [st p (dne p q)]; exact q) i (hA b hb hba i)⟩
  by_cases q5 : i ≤ 5
  · exact h0 i q5
  by_cases q17 : 17 ≤ i ∧ i ≤ 21
  · exact h17 i q17.1 q17.2
  match i with
  | 6 => simp only [RI, cr 1 (by omega), row 5 (by omega)]; exact hr 6 (by omega)
  | 7 => simp only [RI, cr 0 (by omega), row 6 (by omega)]; exact hr 7 (by omega)
  | 8 => simp only [RI, cr 2 (by omega), row 4 (by omega)]; exact hr 8 (by omega)
  | 9 => simp only [RI, cr 3 (by omega), row 3 (by omega)]; exact hr 9 (by omega)
  | 10 => intro c hc; rw [vCell_o hc mr d dn, cr 4 (by omega), row 1 (by omega)]; exact hr 10 (by omega) c hc
  | 11 => intro c hc; rw [vCnt_o hc mr d dn, cr 4 (by omega), row 2 (by omega)]; exact hr 11 (by omega) c hc
  | 12 => exact absurd rfl hi
  | 13 => simp only [RI, cr 6 (by omega), ahd_c (row 10 (by omega))]; exact hr 13 (by omega)
  | 14 =>
    intro i hi
    obtain ⟨g1, b, g2, g3, g4⟩ := hr 14 (by omega) i hi
    rw [row 30 (by omega), cr 7 (by omega)]
    exact ⟨g1, b, g2, g3, by rw [st b (dne b g4)]; exact g4⟩
  | 15 => simp only [RI, row 30 (by omega)]; exact hr 15 (by omega)
  | 16 =>
    intro b hb q
    rw [row 30 (by omega)]
    by_cases e2 : b = a
    · subst e2; exact absurd q (no2' _ hs')
    · rw [st b e2] at q; exact hr 16 (by omega) b hb q
  | 17 => exact h17 17 (by omega) (by omega)
  | 18 => exact h17 18 (by omega) (by omega)
  | 19 => exact h17 19 (by omega) (by omega)
  | 20 => exact h17 20 (by omega) (by omega)
  | 21 => exact h17 21 (by omega) (by omega)
  | 22 =>
    intro i j x y p q hij hj hx hx8 hy hy8 hs2
    rw [row 30 (by omega)] at hx hy
    have id30 : ∀ (i x : Nat), i < d → M.2.1 30 i = nI x → x < 80 → x ≠ a ∧ x < n := fun i x hi hx h8 => by
      obtain ⟨-, b, g1, g2, g3⟩ := hr 14 (by omega) i hi
      have := (nIeq (a := x) (b := b) (by omega) (by omega)).mp (hx.symm.trans g2)
      subst this; exact ⟨dne _ g3, g1⟩
    obtain ⟨x1, x2⟩ := id30 i x (by omega) hx hx8
    obtain ⟨y1, y2⟩ := id30 j y hj hy hy8
    rw [st x x1] at hs2
    rw [st y y1, (co x x1).1, (co y y1).1]
    obtain ⟨g1, g2⟩ := hr 22 (by omega) i j x y p q hij hj hx hx8 hy hy8 hs2
    refine ⟨g1, fun k1 k2 k3 k4 => ?_⟩
    obtain ⟨i1, -, j1, j2, -⟩ := hr 18 (by omega) x x2 hs2
    obtain ⟨i2, -, j3, j4, -⟩ := hr 18 (by omega) y y2 g1
    have e1 := (nIeq (a := p) (b := i1) (by omega) (by omega)).mp (k1.symm.trans j2)
    have e2 := (nIeq (a := q) (b := i2) (by omega) (by omega)).mp (k3.symm.trans j4)
    exact g2 k1 (by omega) k3 (by omega)
  | 23 => simp only [RI, row 30 (by omega), row 19 (by omega)]; exact hr 23 (by omega)
  | 24 => exact h24
  | 25 =>
    intro b hb hb8
    rw [st b (by omega), mr 18 b (by omega) (noAt1 (by omega) (by omega)), row 21 (by omega), mr 16 b (by omega) (noAt1 (by omega) (by omega))]
    exact hr 25 (by omega) b hb hb8
  | k + 26 => trivial
theorem cntK_le {M M' : MS} {k : Nat} (h : ∀ x, M'.2.1 11 x = 1 → M.2.1 11 x = 1) (h9 : M'.2.1 9 = M.2.1 9) (n : Nat) : cntK M' k n ≤ cntK M k n := by
  induction n with
  | zero => exact Nat.le_refl _
  | succ n ih =>
    simp only [cntK]
    by_cases q : M'.2.1 11 n = 1 ∧ M'.2.1 9 n = nI k
    · rw [if_pos q, if_pos ⟨h n q.1, by rw [← h9]; exact q.2⟩]; omega
    · rw [if_neg q]; omega
/-- a change without an entry -/
theorem RIn_chg {C C' : CS} {M M' : MS} {n t u d e kp fa a : Nat} (h : RIn a C M n t u d e kp fa) (ha : a < n) (hC : CA a C C') (hM : MA a M M') (hs : M.2.1 11 a = 0 ∨ M.2.1 11 a = 1) (hs' : M'.2.1 11 a = 0 ∨ M'.2.1 11 a = 1 ∨ (M'.2.1 11 a = 4 ∧ gP C' a 18 = -1)) (h24 : ∀ k, k < 4 → cntK M' k n ≤ 9) : RIn a C' M' n t u d e kp fa := by
  obtain ⟨⟨a1, a2, a3, a4, a5⟩, a6⟩ := hC
  obtain ⟨c1, c2, c3⟩ := hM
  obtain ⟨hr, hA⟩ := id h
  have b3 : M.1 31 = nI e ∧ C.1 21 = nI e ∧ 4 * e ≤ M.2.2 ∧ lnOK M.2.2 ∧ e ≤ gE C ∧ isE (gE C) := hr 3 (by omega)
  have hl := b3.2.2.2.1
  unfold lnOK at hl
  have st : ∀ x, x ≠ a → M'.2.1 11 x = M.2.1 11 x := fun x hx => c3 11 x (noAt1 hx (by omega))
  have e33 : M'.2.1 33 = M.2.1 33 := by funext i; exact c3 33 i (noAt (by omega))
  have e21 : M'.2.1 21 = M.2.1 21 := by funext i; exact c3 21 i (noAt (by omega))
  have n2 : M.2.1 11 a ≠ 2 := fun q => by rw [q] at hs; revert hs; decide
  have n4 : M.2.1 11 a ≠ 4 := fun q => by rw [q] at hs; revert hs; decide
  have n2' : M'.2.1 11 a ≠ 2 := fun q => by rw [q] at hs'; rcases hs' with q | q | ⟨q, -⟩ <;> exact absurd q (by decide)
  refine RIn_gen h ha hs (by rcases hs' with q | q | ⟨q, -⟩; exact Or.inl q; exact Or.inr (Or.inl q); exact Or.inr (Or.inr q)) (fun k _ => by rw [a2]) a6 (fun k i _ q => c3 k i q) h24 (fun i hi => ?_) (fun i h1 h2 => ?_) (by omega) (Nat.le_refl _)
  · match i with
    | 0 => simp only [RI, a1, c1, a5]; exact hr 0 (by omega)
    | 1 => simp only [RI, a1, c1]; exact hr 1 (by omega)
    | 2 => simp only [RI, a1, c1]; exact hr 2 (by omega)
    | 3 => simp only [RI, a1, c1, c2, a4]; exact hr 3 (by omega)
    | 4 => simp only [RI, a1, c1]; exact hr 4 (by omega)
    | 5 => simp only [RI, a1, c1]; exact hr 5 (by omega)
    | k + 6 => omega
  · have hh : i = 17 ∨ i = 18 ∨ i = 19 ∨ i = 20 ∨ i = 21 := by omega
    rcases hh with rfl | rfl | rfl | rfl | rfl
    · simp only [RI, e33, a2]; exact hr 17 (by omega)
    · intro b hb q
      by_cases eb : b = a
      · subst eb; exact absurd q n2'
      · rw [st b eb] at q; rw [e33, (a6 b eb).1]; exact hr 18 (by omega) b hb q
    · intro j j1 j2 j3
      rw [e33] at j3 ⊢
      obtain ⟨x, x1, x2, x3, x4⟩ := hr 19 (by omega) j j1 j2 j3
      have xa : x ≠ a := fun q => by subst q; exact n2 x3
      exact ⟨x, x1, x2, by rw [st x xa]; exact x3, by rw [(a6 x xa).1]; exact x4⟩
    · intro j j1 j2 j3
      rw [e33] at j3 ⊢
      obtain ⟨x, x1, x2, x3, x4, x5⟩ := hr 20 (by omega) j j1 j2 j3
      have xa : x ≠ a := fun q => by subst q; exact n4 x3
      exact ⟨x, x1, x2, by rw [st x xa]; exact x3, by rw [(a6 x xa).1]; exact x4, by rw [e21]; exact x5⟩
    · intro b hb q
      by_cases eb : b = a
      · subst eb
        rcases hs' with q2 | q2 | ⟨-, q2⟩
        · rw [q2] at q; exact absurd q (by decide)
        · rw [q2] at q; exact absurd q (by decide)
        · exact Or.inl q2
      · rw [st b eb] at q; rw [e33, (a6 b eb).1]; exact hr 21 (by omega) b hb q
