/-- an act that has had its turn in this tick and is begun: held or not -/
def HS (C : CS) (M : MS) (t x : Nat) : Prop := (M.2.1 16 x = 0 ∧ gP C x 15 ≠ nI t) ∨ (M.2.1 16 x = 1 ∧ gP C x 15 = nI t ∧ ∃ s k, s < 12 ∧ M.2.1 14 x = nI s ∧ M.2.1 13 (12 * x + s) = nI k ∧ k < 2147483648 ∧ sk k ∧ (k / 10000 = 0 ∨ k / 10000 = 3 ∨ k / 10000 = 4 ∨ k / 10000 = 6))
/-- what an act's turn leaves -/
def SO (a : Nat) (C : CS) (M : MS) (n t d e kp fa : Nat) (C' : CS) (M' : MS) : Prop := ∃ n' d' e' : Nat, (∀ i, RI C' M' n' t (t + 1) d' e' kp fa i) ∧ n ≤ n' ∧ d ≤ d' ∧ C'.1 14 = C.1 14 ∧ C'.2.1 8 = C.2.1 8 ∧ M'.2.1 36 = M.2.1 36 ∧ (∀ x, x < n → x ≠ a → (∀ k, (k = 11 ∨ k = 14 ∨ k = 16) → M'.2.1 k x = M.2.1 k x) ∧ (∀ j, j < 12 → M'.2.1 13 (12 * x + j) = M.2.1 13 (12 * x + j)) ∧ gP C' x 15 = gP C x 15) ∧ (∀ x, n ≤ x → x < n' → M'.2.1 11 x = 0) ∧ (M'.2.1 11 a = 1 → HS C' M' t a) ∧ e' + (if M'.2.1 11 a = 1 ∧ M'.2.1 16 a ≠ 0 then 1 else 0) + d ≤ e + 1 + d'
theorem SO_fr {a n : Nat} {C C' : CS} {M M' : MS} (hC : CX a C C') (hM : MX a M M') : C'.1 14 = C.1 14 ∧ C'.2.1 8 = C.2.1 8 ∧ M'.2.1 36 = M.2.1 36 ∧ (∀ x, x < n → x ≠ a → (∀ k, (k = 11 ∨ k = 14 ∨ k = 16) → M'.2.1 k x = M.2.1 k x) ∧ (∀ j, j < 12 → M'.2.1 13 (12 * x + j) = M.2.1 13 (12 * x + j)) ∧ gP C' x 15 = gP C x 15) :=
  ⟨hC.1, hC.2.1, by funext i; exact hM 36 i (by omega) (noAt (by omega)), fun x _ hx => ⟨fun k hk => hM k x (by omega) (noAt1 hx (by omega)), fun j hj => hM 13 _ (by omega) (noAt12 hx (by omega) hj), by rw [(hC.2.2 x hx).1]⟩⟩
theorem RA_beg {C C' : CS} {M M' : MS} {u a : Nat} (h : ∀ i, RA C M u a i) (hs : M.2.1 11 a = 1) (hM : MX a M M') (hF : ∀ j, j = 0 ∨ j = 1 ∨ j = 2 ∨ j = 3 ∨ j = 12 ∨ j = 16 ∨ j = 17 ∨ j = 19 → gP C' a j = gP C a j) (hMf : ∀ j, j = 11 ∨ j = 17 ∨ j = 18 ∨ j = 20 → M'.2.1 j a = M.2.1 j a) (h15 : gP C' a 15 = -1 ∨ ∃ s, s < u ∧ gP C' a 15 = nI s) (hB : BEG C' M' a) : ∀ i, RA C' M' u a i := by
  have r : ∀ k, (k ≤ 10 ∨ k = 19 ∨ k = 21) → M'.2.1 k a = M.2.1 k a := fun k hk => hM k a (by omega) (noAt (by omega))
  have e11 := hMf 11 (by omega)
  have v0 : M.2.1 21 a = 0 := by
    rcases h 10 with q | ⟨-, q, -⟩
    · exact q
    · rw [hs] at q; exact absurd q (by decide)
  intro i
  match i with
  | 0 => simp only [RA, hF 0 (by omega), r 8 (by omega)]; exact h 0
  | 1 => simp only [RA, hF 1 (by omega), r 9 (by omega)]; exact h 1
  | 2 => simp only [RA, hF 2 (by omega), r 10 (by omega)]; exact h 2
  | 3 => simp only [RA, hF 3 (by omega), r 19 (by omega)]; exact h 3
  | 4 => simp only [RA, hF 12 (by omega), e11]; exact h 4
  | 5 => simp only [RA, hF 16 (by omega), hF 17 (by omega), hF 19 (by omega), hMf 17 (by omega), hMf 18 (by omega), hMf 20 (by omega)]; exact h 5
  | 6 => exact fun _ => hB
  | 7 => intro q; rw [e11, hs] at q; rcases q with q | q <;> exact absurd q (by decide)
  | 8 => intro q; rw [e11, hs] at q; exact absurd q (by decide)
  | 9 => exact h15
  | 10 => left; rw [r 21 (by omega)]; exact v0
  | 11 =>
    intro p hp hpe
    rw [r 19 (by omega)] at hpe
    rcases h 11 p hp hpe with q | q
    · rw [v0] at q; exact absurd q (by decide)
    · have pa : p ≠ a := fun e => by subst e; rw [hs] at q; rcases q with q | q <;> exact absurd q (by decide)
      right; rw [hM 11 p (by omega) (noAt1 pa (by omega))]; exact q
  | 12 => simp only [RA, e11, hMf 17 (by omega)]; exact h 12
  | k + 13 => trivial
theorem SO_held {a k : Nat} {C : CS} {M : MS} {n t d e kp fa s : Nat} (h : ∀ i, RI C M n t (t + 1) d e kp fa i) (ha : a < n) (hs : M.2.1 11 a = 1) (hs12 : s < 12) (h14 : M.2.1 14 a = nI s) (h13 : M.2.1 13 (12 * a + s) = nI k) (hk : k < 2147483648) (hsk : sk k) (ho : k / 10000 = 0 ∨ k / 10000 = 3 ∨ k / 10000 = 4 ∨ k / 10000 = 6) : SO a C M n t d e kp fa (cP C a 15 (nI t)) (mA M 16 a 1) := by
  have cC : CA a C (cP C a 15 (nI t)) := CA_P
  have cM : MA a M (mA M 16 a 1) := MA_a (by omega)
  have m0 : ∀ j, j ≠ 16 → (mA M 16 a 1).2.1 j = M.2.1 j := fun j hj => mA_ne hj
  have h15 : gP (cP C a 15 (nI t)) a 15 = nI t := by rw [cP_Pa, if_pos rfl]
  have bg : BEG (cP C a 15 (nI t)) (mA M 16 a 1) a := by
    obtain ⟨l, s2, q, g1, g2, g3, g4, g5, g6⟩ := BG_of (h 12 a ha 6 hs)
    exact BEG_of g1 g2 g3 (by rw [m0 14 (by omega)]; exact g4) (by rw [cP_Pa, if_neg (by omega)]; exact g5) (BG_c g6 (fun j hj => by rw [cP_Pa, if_neg (by omega)]) rfl (fun j hj => m0 j (by omega)))
  have hR := RI_of (RIn_stay (RIn_of h) ha cC cM hs (by rw [m0 11 (by omega)]; exact hs)) (RA_beg (h 12 a ha) hs (MX_A cM) (fun j hj => by rw [cP_Pa, if_neg (by omega)]) (fun j hj => by rw [m0 j (by omega)]) (Or.inr ⟨t, by omega, h15⟩) bg)
  obtain ⟨f1, f2, f3, f4⟩ := SO_fr (n := n) (CX_A cC) (MX_A cM)
  refine ⟨n, d, e, hR, Nat.le_refl _, Nat.le_refl _, f1, f2, f3, f4, fun x h1 h2 => by omega, fun _ => Or.inr ⟨pk_us, h15, s, k, hs12, by rw [m0 14 (by omega)]; exact h14, by rw [m0 13 (by omega)]; exact h13, hk, hsk, ho⟩, ?_⟩
  have : (if (mA M 16 a 1).2.1 11 a = 1 ∧ (mA M 16 a 1).2.1 16 a ≠ 0 then 1 else 0) ≤ 1 := by split <;> omega
  omega
/-- it stays begun -/
theorem SO_stay {a : Nat} {C C2 : CS} {M M2 : MS} {n t d e e' kp fa l s' q' : Nat} (h : ∀ i, RI C M n t (t + 1) d e kp fa i) (ha : a < n) (hs : M.2.1 11 a = 1) (h15 : gP C a 15 ≠ nI t) (hl : l ≤ 12) (hR : RIn a C2 M2 n t (t + 1) d e' kp fa) (he : e' ≤ e + 1) (hC : CX a C C2) (hM : MX a M M2) (hF : FX a C C2 M M2) (h14 : gP C2 a 14 = nI s') (hsl : s' < l) (hq : q' ≤ s') (h16 : M2.2.1 16 a = 0) (hB : BGx C2 M2 a l q') : SO a C M n t d e kp fa C2 (mA M2 14 a (nI s')) := by
  have m0 : ∀ j, j ≠ 14 → (mA M2 14 a (nI s')).2.1 j = M2.2.1 j := fun j hj => mA_ne hj
  have cM : MA a M2 (mA M2 14 a (nI s')) := MA_a (by omega)
  have s2 : M2.2.1 11 a = 1 := by rw [hF.2 11 (by omega)]; exact hs
  have bg : BEG C2 (mA M2 14 a (nI s')) a := BEG_of hl hsl hq pk_us h14 (BG_c hB (fun _ _ => rfl) rfl (fun j hj => m0 j (by omega)))
  have hR2 := RI_of (RIn_stay hR ha (CA_rf a C2) cM s2 (by rw [m0 11 (by omega)]; exact s2)) (RA_beg (h 12 a ha) hs (MX_tr hM (MX_A cM)) (fun j hj => hF.1 j (by omega)) (fun j hj => by rw [m0 j (by omega)]; exact hF.2 j (by omega)) (by rw [hF.1 15 (by omega)]; exact h 12 a ha 9) bg)
  obtain ⟨f1, f2, f3, f4⟩ := SO_fr (n := n) hC (MX_tr hM (MX_A cM))
  have h16' : (mA M2 14 a (nI s')).2.1 16 a = 0 := by rw [m0 16 (by omega)]; exact h16
  refine ⟨n, d, e', hR2, Nat.le_refl _, Nat.le_refl _, f1, f2, f3, f4, fun x h1 h2 => by omega, fun _ => Or.inl ⟨h16', by rw [hF.1 15 (by omega)]; exact h15⟩, ?_⟩
  rw [if_neg (fun q => q.2 h16')]; omega
/-- it is stopped -/
theorem SO_stop {a : Nat} {C C2 : CS} {M M2 : MS} {n t d e kp fa : Nat} (h : ∀ i, RI C M n t (t + 1) d e kp fa i) (ha : a < n) (hs : M.2.1 11 a = 1) (hR : RIn a C2 M2 n t (t + 1) d e kp fa) (hC : CX a C C2) (hM : MX a M M2) (hF : FX a C C2 M M2) (hb : e < 512000) : ∃ C' M', f_X3_stopAct (nI a) C2 = some (0, C') ∧ f_X4_does_371 (nI a) M2 = some (0, M') ∧ SO a C M n t d e kp fa C' M' := by
  obtain ⟨b1, b2, b3, b4⟩ : M2.1 7 = nI n ∧ C2.1 12 = nI n ∧ gN C2 = n ∧ n ≤ 80 := hR.1 0 (by omega)
  obtain ⟨t1, t2, t3⟩ : M2.1 0 = nI t ∧ C2.1 15 = nI t ∧ t ≤ 5000 := hR.1 1 (by omega)
  obtain ⟨z1, z2, z3, z4, z5, z6⟩ : M2.1 31 = nI e ∧ C2.1 21 = nI e ∧ 4 * e ≤ M2.2.2 ∧ lnOK M2.2.2 ∧ e ≤ gE C2 ∧ isE (gE C2) := hR.1 3 (by omega)
  have a80 : a < 80 := by omega
  have s2 : M2.2.1 11 a = 1 := by rw [hF.2 11 (by omega)]; exact hs
  have hA := h 12 a ha
  have v0 : M.2.1 21 a = 0 := by
    rcases hA 10 with q | ⟨-, q, -⟩
    · exact q
    · rw [hs] at q; exact absurd q (by decide)
  have d17 : M.2.1 17 a = -1 := by
    rcases hA 12 with q | q | q
    · rw [hs] at q; exact absurd q (by decide)
    · rw [hs] at q; exact absurd q (by decide)
    · exact q
  obtain ⟨C3, w1, w2⟩ := c_write (C := cLeave a 4 C2) (e := e) (k := 3) (a := nI a) (c := -1) (t := nI t) z2 z5 z6 (by omega)
  obtain ⟨M3, v1, v2⟩ := m_logs2 (M := M2) (e := e) (x := 3) (y := nI a) (z := -1) z1 z3 z4 hb
  refine ⟨cP C3 a 18 (nI e), mA (mClr a M3) 11 a 4, ?_, ?_, ?_⟩
  · unfold f_X3_stopAct
    rw [if_pos ⟨ck a 80 (by omega), by rw [nc a (by omega)]; omega⟩, nc a (by omega), c_leave, k_bs, show (cLeave a 4 C2).1 15 = nI t from t2, w1, k_bs, k_ls]
  · unfold f_X4_does_371
    rw [v1, k_bs, m_clears a80, k_bs, if_pos (ck a 80 (by omega)), nc a (by omega), k_ls]
  · have cal : CAL a C2 (cP C3 a 18 (nI e)) e (enc (nI 3) (nI a) (-1) (nI t)) := CAL_of CA_leave w2 CA_P
    have mal : MAL a M2 (mA (mClr a M3) 11 a 4) e (nI 3) (nI a) (-1) := MAL_of (MA_rf a M2) v2 (MA_tr (MA_clr a M3) (MA_a (by omega)))
    have mx := MX_tr hM (MX_L mal)
    have gP3 : ∀ j, gP C3 a j = gP (cLeave a 4 C2) a j := fun j => by rw [w2.2.2.2.2.2.2.1]
    have gq : ∀ j, j ≠ 12 → j ≠ 17 → j ≠ 18 → j ≠ 11 → gP (cP C3 a 18 (nI e)) a j = gP C2 a j := fun j h1 h2 h3 h4 => by
      rw [cP_Pa, if_neg h3, gP3, cLeave_P, if_pos rfl, if_neg h1, if_neg h2, if_neg h3, if_neg h4]
    have g12 : gP (cP C3 a 18 (nI e)) a 12 = 4 := by rw [cP_Pa, if_neg (by omega), gP3, cLeave_P, if_pos rfl, if_pos rfl]
    have g17 : gP (cP C3 a 18 (nI e)) a 17 = -1 := by rw [cP_Pa, if_neg (by omega), gP3, cLeave_P, if_pos rfl, if_neg (by omega), if_pos rfl]
    have g18 : gP (cP C3 a 18 (nI e)) a 18 = nI e := by rw [cP_Pa, if_pos rfl]
    have m11 : (mA (mClr a M3) 11 a 4).2.1 11 a = 4 := pk_us
    have mk : ∀ j, j = 17 ∨ j = 18 ∨ j = 20 → (mA (mClr a M3) 11 a 4).2.1 j a = M.2.1 j a := fun j hj => by
      rw [mA_ne (by omega), ← hF.2 j (by omega)]
      rcases hj with rfl | rfl | rfl
      · show M3.2.1 17 a = _; rw [v2.2.1 17 (by omega)]
      · show M3.2.1 18 a = _; rw [v2.2.1 18 (by omega)]
      · show M3.2.1 20 a = _; rw [v2.2.1 20 (by omega)]
    have r : ∀ k, (k ≤ 10 ∨ k = 19 ∨ k = 21) → (mA (mClr a M3) 11 a 4).2.1 k a = M.2.1 k a := fun k hk => mx k a (by omega) (noAt (by omega))
    have rin : RIn a (cP C3 a 18 (nI e)) (mA (mClr a M3) 11 a 4) n t (t + 1) d (e + 1) kp fa := by
      refine RIn_lg (k := 3) hR ha cal mal (by omega) (by omega) (Or.inl rfl) (Or.inr s2) (Or.inr ⟨rfl, m11, g18, by rw [r 21 (by omega)]; exact v0⟩) (fun k hk => Nat.le_trans (cntK_le (fun x y => ?_) ?_ n) (hR.1 24 (by omega) k hk)) hb
      · by_cases e2 : x = a
        · rw [e2]; exact s2
        · rw [← mal.2.1 11 x (by omega) (noAt1 e2 (by omega))]; exact y
      · funext i; exact mal.2.1 9 i (by omega) (noAt (by omega))
    have ra : ∀ i, RA (cP C3 a 18 (nI e)) (mA (mClr a M3) 11 a 4) (t + 1) a i := by
      intro i
      match i with
      | 0 => simp only [RA, gq 0 (by omega) (by omega) (by omega) (by omega), hF.1 0 (by omega), r 8 (by omega)]; exact hA 0
      | 1 => simp only [RA, gq 1 (by omega) (by omega) (by omega) (by omega), hF.1 1 (by omega), r 9 (by omega)]; exact hA 1
      | 2 => simp only [RA, gq 2 (by omega) (by omega) (by omega) (by omega), hF.1 2 (by omega), r 10 (by omega)]; exact hA 2
      | 3 => simp only [RA, gq 3 (by omega) (by omega) (by omega) (by omega), hF.1 3 (by omega), r 19 (by omega)]; exact hA 3
      | 4 => exact ⟨by rw [g12, m11], 4, by omega, m11⟩
      | 5 =>
        refine ⟨by rw [gq 16 (by omega) (by omega) (by omega) (by omega), hF.1 16 (by omega), mk 20 (by omega)]; exact (hA 5).1, by rw [g17, mk 17 (by omega), d17], by rw [gq 19 (by omega) (by omega) (by omega) (by omega), hF.1 19 (by omega), mk 18 (by omega)]; exact (hA 5).2.2⟩
      | 6 => intro q; rw [m11] at q; exact absurd q (by decide)
      | 7 => intro q; rw [m11] at q; rcases q with q | q <;> exact absurd q (by decide)
      | 8 => intro q; rw [m11] at q; exact absurd q (by decide)
      | 9 => simp only [RA, gq 15 (by omega) (by omega) (by omega) (by omega), hF.1 15 (by omega)]; exact hA 9
      | 10 => left; rw [r 21 (by omega)]; exact v0
      | 11 =>
        intro p hp hpe
        rw [r 19 (by omega)] at hpe
        rcases hA 11 p hp hpe with q | q
        · rw [v0] at q; exact absurd q (by decide)
        · have pa : p ≠ a := fun e => by subst e; rw [hs] at q; rcases q with q | q <;> exact absurd q (by decide)
          right; rw [mx 11 p (by omega) (noAt1 pa (by omega))]; exact q
      | 12 => right; right; rw [mk 17 (by omega)]; exact d17
      | k + 13 => trivial
    obtain ⟨f1, f2, f3, f4⟩ := SO_fr (n := n) (CX_tr hC (CX_L cal)) mx
    have n1' : (mA (mClr a M3) 11 a 4).2.1 11 a ≠ 1 := by rw [m11]; decide
    refine ⟨n, d, e + 1, RI_of rin ra, Nat.le_refl _, Nat.le_refl _, f1, f2, f3, f4, fun x h1 h2 => by omega, fun q => absurd q n1', ?_⟩
    rw [if_neg (fun q => n1' q.1)]; omega
