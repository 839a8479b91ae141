theorem RI_rg {C : CS} {M : MS} {n t u d e kp fa : Nat} (h : ∀ i, RI C M n t u d e kp fa i) : ∀ i, RI (cN C 16 (C.1 16 + 1)) (mI M 34 (M.1 34 + 1)) n t u d e kp fa i := by
  intro i
  match i with
  | 0 => exact h 0
  | 1 => exact h 1
  | 2 => exact h 2
  | 3 => exact h 3
  | 4 => exact h 4
  | 5 =>
    obtain ⟨g1, g2, g3, g4⟩ : C.1 16 = M.1 34 ∧ C.1 17 = nI fa ∧ M.1 35 = nI fa ∧ fa ≤ 512 := h 5
    exact ⟨by show C.1 16 + 1 = M.1 34 + 1; rw [g1], g2, g3, g4⟩
  | 6 => exact h 6
  | 7 => exact h 7
  | 8 => exact h 8
  | 9 => exact h 9
  | 10 => exact fun c hc => ⟨(h 10 c hc).1, (h 10 c hc).2.trans (vCell_c (M := M) (M' := mI M 34 (M.1 34 + 1)) rfl rfl rfl d).symm⟩
  | 11 => exact fun c hc => ⟨(h 11 c hc).1, (h 11 c hc).2.trans (vCnt_c (M := M) (M' := mI M 34 (M.1 34 + 1)) rfl rfl d).symm⟩
  | 12 => exact fun a ha i => RA_tr (C := C) (M := M) rfl rfl (fun _ _ _ => rfl) i (h 12 a ha i)
  | 13 => exact h 13
  | 14 => exact h 14
  | 15 => exact h 15
  | 16 => exact h 16
  | 17 => exact h 17
  | 18 => exact h 18
  | 19 => exact h 19
  | 20 => exact h 20
  | 21 => exact h 21
  | 22 => exact h 22
  | 23 => exact h 23
  | 24 => exact fun k hk => by rw [cntK_c (M := M) (M' := mI M 34 (M.1 34 + 1)) rfl rfl n]; exact h 24 k hk
  | 25 => exact h 25
  | k + 26 => trivial
/-- an act of a ring is undone -/
theorem undo_same {C : CS} {M : MS} {n t u d e kp fa a : Nat} (h : ∀ i, RI C M n t u d e kp fa i) (ha : a < n) (hs : M.2.1 11 a = 1) (hb : e < 512000) (K : Int32 → MS → Option (Int32 × MS)) : ∃ C' M', f_X3_undoInRing (nI a) C = some (0, C') ∧ brk K (nI a) M = K (nI a) M' ∧ (∀ i, RI C' M' n t u d (e + 1) kp fa i) ∧ (∀ k, k ≠ 16 → k ≠ 21 → C'.1 k = C.1 k) ∧ C'.2.1 8 = C.2.1 8 ∧ C'.2.2.1 = C.2.2.1 ∧ (∀ b, b ≠ a → gP C' b = gP C b) ∧ MX a M M' ∧ M'.2.1 11 a = 0 := by
  obtain ⟨b1, b2, b3, b4⟩ : M.1 7 = nI n ∧ C.1 12 = nI n ∧ gN C = n ∧ n ≤ 80 := h 0
  obtain ⟨t1, t2, t3⟩ : M.1 0 = nI t ∧ C.1 15 = nI t ∧ t ≤ 5000 := h 1
  obtain ⟨z1, z2, z3, z4, z5, z6⟩ : M.1 31 = nI e ∧ C.1 21 = nI e ∧ 4 * e ≤ M.2.2 ∧ lnOK M.2.2 ∧ e ≤ gE C ∧ isE (gE C) := h 3
  have a80 : a < 80 := by omega
  have hA := h 12 a ha
  have v0 : M.2.1 21 a = 0 := by
    rcases hA 10 with q | ⟨-, q, -⟩
    · exact q
    · rw [hs] at q; exact absurd q (by decide)
  have d17 : M.2.1 17 a = -1 := by
    rcases hA 12 with q | q | q
    · rw [hs] at q; exact absurd q (by decide)
    · rw [hs] at q; exact absurd q (by decide)
    · exact q
  generalize hC2 : cP (cLeave a 0 C) a 19 (gP (cLeave a 0 C) a 19 + 1) = C2
  have caC : CA a C C2 := by rw [← hC2]; exact CA_tr CA_leave CA_P
  obtain ⟨C3, w1, w2⟩ := c_write (C := C2) (e := e) (k := 4) (a := nI a) (c := -1) (t := nI t) (by rw [caC.1.1]; exact z2) (by rw [caC.1.2.2.2.1]; exact z5) (by rw [caC.1.2.2.2.1]; exact z6) (by omega)
  obtain ⟨M3, v1, v2⟩ := m_logs2 (M := M) (e := e) (x := 4) (y := nI a) (z := -1) z1 z3 z4 hb
  generalize hM5 : mA (mA (mClr a M3) 11 a 0) 18 a (M3.2.1 18 a + 1) = M5
  have cal : CAL a C C3 e (enc (nI 4) (nI a) (-1) (nI t)) := CAL_of caC w2 (CA_rf a C3)
  have mal : MAL a M M5 e (nI 4) (nI a) (-1) := MAL_of (MA_rf a M) v2 (by rw [← hM5]; exact MA_tr (MA_tr (MA_clr a M3) (MA_a (by omega))) (MA_a (by omega)))
  have gP3 : ∀ j, gP C3 a j = gP C2 a j := fun j => by rw [w2.2.2.2.2.2.2.1]
  have gq : ∀ j, j ≠ 12 → j ≠ 17 → j ≠ 18 → j ≠ 11 → j ≠ 19 → gP C3 a j = gP C a j := fun j h1 h2 h3 h4 h5 => by
    rw [gP3, ← hC2, cP_Pa, if_neg h5, cLeave_P, if_pos rfl, if_neg h1, if_neg h2, if_neg h3, if_neg h4]
  have g12 : gP C3 a 12 = 0 := by rw [gP3, ← hC2, cP_Pa, if_neg (by omega), cLeave_P, if_pos rfl, if_pos rfl]
  have g17 : gP C3 a 17 = -1 := by rw [gP3, ← hC2, cP_Pa, if_neg (by omega), cLeave_P, if_pos rfl, if_neg (by omega), if_pos rfl]
  have g11 : gP C3 a 11 = 0 := by rw [gP3, ← hC2, cP_Pa, if_neg (by omega), cLeave_P, if_pos rfl, if_neg (by omega), if_neg (by omega), if_neg (by omega), if_pos rfl]
  have g19 : gP C3 a 19 = gP C a 19 + 1 := by
    rw [gP3, ← hC2, cP_Pa, if_pos rfl, cLeave_P, if_pos rfl, if_neg (by omega), if_neg (by omega), if_neg (by omega), if_neg (by omega)]
  have gQ3 : ∀ j, gQ C3 a j = gQ (cLeave a 0 C) a j := fun j => by rw [w2.2.2.2.2.2.2.2.1, ← hC2]; rfl
  have m11 : M5.2.1 11 a = 0 := by rw [← hM5, mA_ne (by omega)]; exact pk_us
  have m18 : M5.2.1 18 a = M.2.1 18 a + 1 := by rw [← hM5, mA_eq, pk_us, v2.2.1 18 (by omega)]
  have mk : ∀ j, j = 17 ∨ j = 20 → M5.2.1 j a = M.2.1 j a := fun j hj => by
    rw [← hM5, mA_ne (by omega), mA_ne (by omega)]
    rcases hj with rfl | rfl
    · show M3.2.1 17 a = _; rw [v2.2.1 17 (by omega)]
    · show M3.2.1 20 a = _; rw [v2.2.1 20 (by omega)]
  have mx := MX_L mal
  have r : ∀ k, (k ≤ 10 ∨ k = 19 ∨ k = 21) → M5.2.1 k a = M.2.1 k a := fun k hk => mx k a (by omega) (noAt (by omega))
  have rin : RIn a C3 M5 n t u d (e + 1) kp fa := by
    refine RIn_lg (k := 4) (RIn_of h) ha cal mal (by omega) (by omega) (Or.inl rfl) (Or.inr hs) (Or.inl ⟨by omega, Or.inl m11⟩) (fun k hk => Nat.le_trans (cntK_le (fun x y => ?_) ?_ n) (h 24 k hk)) hb
    · by_cases e2 : x = a
      · rw [e2]; exact hs
      · rw [← mal.2.1 11 x (by omega) (noAt1 e2 (by omega))]; exact y
    · funext i; exact mal.2.1 9 i (by omega) (noAt (by omega))
  have ra : ∀ i, RA C3 M5 u a i := by
    intro i
    match i with
    | 0 => simp only [RA, gq 0 (by omega) (by omega) (by omega) (by omega) (by omega), r 8 (by omega)]; exact hA 0
    | 1 => simp only [RA, gq 1 (by omega) (by omega) (by omega) (by omega) (by omega), r 9 (by omega)]; exact hA 1
    | 2 => simp only [RA, gq 2 (by omega) (by omega) (by omega) (by omega) (by omega), r 10 (by omega)]; exact hA 2
    | 3 => simp only [RA, gq 3 (by omega) (by omega) (by omega) (by omega) (by omega), r 19 (by omega)]; exact hA 3
    | 4 => exact ⟨by rw [g12, m11], 0, by omega, m11⟩
    | 5 => exact ⟨by rw [gq 16 (by omega) (by omega) (by omega) (by omega) (by omega), mk 20 (by omega)]; exact (hA 5).1, by rw [g17, mk 17 (by omega), d17], by rw [g19, m18, (hA 5).2.2]⟩
    | 6 => intro q; rw [m11] at q; exact absurd q (by decide)
    | 7 => intro q; rw [m11] at q; rcases q with q | q <;> exact absurd q (by decide)
    | 8 =>
      intro _
      refine ⟨fun c hc => ?_, fun c hc => ⟨?_, ?_⟩, g11⟩
      · rw [gQ3, cLeave_Q, if_pos rfl, if_pos rfl]; exact if_pos hc
      · rw [gQ3, cLeave_Q, if_pos rfl, if_neg (by omega), if_pos rfl]; exact if_pos hc
      · rw [gQ3, cLeave_Q, if_pos rfl, if_neg (by omega), if_neg (by omega), if_pos rfl]; exact if_pos hc
    | 9 => simp only [RA, gq 15 (by omega) (by omega) (by omega) (by omega) (by omega)]; exact hA 9
    | 10 => left; rw [r 21 (by omega)]; exact v0
    | 11 =>
      intro p hp hpe
      rw [r 19 (by omega)] at hpe
      rcases hA 11 p hp hpe with q | q
      · rw [v0] at q; exact absurd q (by decide)
      · have pa : p ≠ a := fun e => by subst e; rw [hs] at q; rcases q with q | q <;> exact absurd q (by decide)
        right; rw [mx 11 p (by omega) (noAt1 pa (by omega))]; exact q
    | 12 => right; right; rw [mk 17 (by omega)]; exact d17
    | k + 13 => trivial
  refine ⟨cN C3 16 (C3.1 16 + 1), mI M5 34 (M5.1 34 + 1), ?_, ?_, RI_rg (RI_of rin ra), fun k h1 h2 => ?_, ?_, ?_, fun b hb => (cal.2.2.2.2.2.2.2.2 b hb).1, mx, m11⟩
  · unfold f_X3_undoInRing
    rw [if_pos ⟨ck a 80 (by omega), by rw [nc a (by omega)]; omega⟩, nc a (by omega), c_undo, k_bs, hC2, show C2.1 15 = nI t from by rw [caC.1.1]; exact t2, w1, k_bs, k_ls]
  · unfold brk
    rw [if_neg (m1_ne (by omega)), v1, k_bs, m_clears a80, k_bs, if_pos (ck a 80 (by omega)), nc a (by omega), k_ls, k_ls, k_ls, show (mA (mClr a M3) 11 a 0).2.1 18 a = M3.2.1 18 a from by rw [mA_ne (by omega)]; rfl, hM5]
  · rw [cN_1, if_neg h1, cal.1]; exact if_neg h2
  · exact cal.2.1 8 (by omega)
  · exact cal.2.2.2.2.2.2.2.1
theorem hc_un {M M' : MS} {g : Nat → Nat} {a : Nat} (h1 : M.2.1 11 a = 1 ∧ M.2.1 16 a ≠ 0) (h2 : M'.2.1 11 a ≠ 1) (m : Nat) (ho : ∀ q, q < m → g q ≠ a → M'.2.1 11 (g q) = M.2.1 11 (g q) ∧ M'.2.1 16 (g q) = M.2.1 16 (g q)) (inj : ∀ p q, p < q → q < m → g p ≠ g q) {i : Nat} (hi : i < m) (ei : g i = a) : hc M' g m + 1 = hc M g m := by
  induction m with
  | zero => omega
  | succ m ih =>
    simp only [hc]
    by_cases z : i = m
    · have e1 : hc M' g m = hc M g m := hc_c m (fun q hq => ho q (by omega) (by rw [← ei, z]; exact inj q m hq (by omega)))
      rw [← z, ei, if_pos h1, if_neg (fun q => h2 q.1), z, e1]
    · have e1 := ih (fun q hq => ho q (by omega)) (fun p q h1 h2 => inj p q h1 (by omega)) (by omega)
      have := ho m (by omega) (by rw [← ei]; exact fun e => inj i m (by omega) (by omega) e.symm)
      rw [this.1, this.2]; omega
theorem hc_0 {M : MS} {g : Nat → Nat} (m : Nat) (h : hc M g m = 0) (q : Nat) (hq : q < m) : ¬ (M.2.1 11 (g q) = 1 ∧ M.2.1 16 (g q) ≠ 0) := by
  induction m with
  | zero => omega
  | succ m ih =>
    simp only [hc] at h
    by_cases z : q = m
    · subst z; intro w; rw [if_pos w] at h; omega
    · exact ih (by omega) (by omega)
theorem hc_le {M : MS} {g : Nat → Nat} (m : Nat) : hc M g m ≤ m := by
  induction m with
  | zero => exact Nat.le_refl _
  | succ m ih => simp only [hc]; split <;> omega
theorem barsP_c {M M' : MS} {o x c : Nat} {w : Int32} (h11 : M'.2.1 11 o = M.2.1 11 o) (h23 : M'.2.1 23 (24 * o + c) = M.2.1 23 (24 * o + c)) : barsP M' o x c w ↔ barsP M o x c w := by
  unfold barsP; rw [h11, h23]
/-- waits of two others stay -/
theorem waits_c {C : CS} {M M' : MS} {t a x y : Nat} (hM : ∀ k i, k ≤ 28 → ¬ AtA k a i → M'.2.1 k i = M.2.1 k i) (hx : x ≠ a) (hy : y ≠ a) (hH : M.2.1 11 x = 1 → HS C M t x) : waitsP M' x y ↔ waitsP M x y := by
  have e11 : M'.2.1 11 x = M.2.1 11 x := hM 11 x (by omega) (noAt1 hx (by omega))
  have e16 : M'.2.1 16 x = M.2.1 16 x := hM 16 x (by omega) (noAt1 hx (by omega))
  have e14 : M'.2.1 14 x = M.2.1 14 x := hM 14 x (by omega) (noAt1 hx (by omega))
  have y11 : M'.2.1 11 y = M.2.1 11 y := hM 11 y (by omega) (noAt1 hy (by omega))
  by_cases hs : M.2.1 11 x = 1
  · rcases hH hs with ⟨w1, w2⟩ | ⟨w1, w2, s, k, w3, w4, w5, w6, w7, w8⟩
    · exact ⟨fun z => absurd (by rw [e16]; exact w1) z.2.1, fun z => absurd w1 z.2.1⟩
    · have e13 : M'.2.1 13 (12 * x + s) = nI k := by rw [hM 13 _ (by omega) (noAt12 hx (by omega) w3)]; exact w5
      rw [edge_iff hs w1 w3 w4 w5 w6, edge_iff (M := M') (by rw [e11]; exact hs) (by rw [e16]; exact w1) w3 (by rw [e14]; exact w4) e13 w6]
      by_cases z : k / 10000 = 6
      · exact ⟨fun q => absurd z q.1, fun q => absurd z q.1⟩
      · have hc : k / 100 % 100 < 24 := w7.2.1 (by omega)
        rw [barsP_c y11 (hM 23 _ (by omega) (noAt24 hy (by omega) hc))]
  · exact ⟨fun z => absurd (by rw [← e11]; exact z.1) hs, fun z => absurd z.1 hs⟩
theorem HS_ok {C : CS} {M : MS} {t x : Nat} (h : M.2.1 11 x = 1 → HS C M t x) : HeldOK M x := by
  intro hs h16
  rcases h hs with ⟨w1, w2⟩ | ⟨w1, w2, s, k, w3, w4, w5, w6, w7, w8⟩
  · exact absurd w1 h16
  · have e1 : stp M x = nI k := by unfold stp; rw [w4, nc s (by omega), w5]
    refine ⟨s, w3, w4, ?_⟩
    rw [e1, op_nI w6, show cel (nI k) = nI (k / 100 % 100) from cel_nI w6]
    by_cases z : k / 10000 = 6
    · left; rw [z]; rfl
    · exact Or.inr ⟨_, w7.2.1 (by omega), rfl⟩
/-- the rings' phase -/
def TR (C : CS) (M : MS) (n t d e kp fa m : Nat) (g : Nat → Nat) (v : Nat) (A : Nat → Nat) : Prop := (∀ j, RI C M n t (t + 1) d e kp fa j) ∧ (C.1 14 = nI m ∧ C.1 32 = nI m ∧ m ≤ 36) ∧ (∀ q, q < m → C.2.1 8 q = nI (g q) ∧ g q < n) ∧ (∀ p q, p < q → q < m → g p ≠ g q) ∧ (∀ x, x < n → M.2.1 11 x = 1 → ∃ q, q < m ∧ g q = x) ∧ (∀ q, q < m → M.2.1 11 (g q) = 1 → HS C M t (g q)) ∧ e + hc M g m ≤ 72 * t + d + 80 * fa + m ∧ hc M g m + v ≤ m ∧ LB (C.2.2.1 30) A m ∧ WI M m g A
theorem TR_held {C : CS} {M : MS} {n t d e kp fa m v : Nat} {g A : Nat → Nat} (h : TR C M n t d e kp fa m g v A) (x : Nat) (hx : x < n) : HeldOK M x := by
  obtain ⟨r1, r2, r3, r4, r5, r6, r7, r8, r9, r10⟩ := h
  refine HS_ok (C := C) (t := t) (fun hs => ?_)
  obtain ⟨q, q1, q2⟩ := r5 x hx hs
  have := r6 q q1 (by rw [q2]; exact hs)
  rw [q2] at this; exact this
/-- a round without rings ends the reference's loop -/
theorem no_ring {M : MS} {n : Nat} (k2 : Nat) (x : Int32) (hx : x ≠ -1) (hn80 : n ≤ 80) (hn : M.1 7 = nI n) (hH : ∀ x, x < n → HeldOK M x) (hno : ∀ p, p < n → ¬ Relation.TransGen (wE M n) p p) : ∃ rch que, f_X4_breaks_2 (k2 + 2) x M = some (0, mR (mR M 37 rch) 38 que) := by
  rw [f_X4_breaks_2, if_neg hx]
  obtain ⟨v, rch, que, e1, e2⟩ := m_last (fun v1 M => f_X4_breaks_2 (k2 + 1) v1 M) hn80 hn hH
  rw [e1]
  rcases e2 with ⟨q1, -⟩ | ⟨p, q1, -, q3, -⟩
  · rw [q1]
    refine ⟨rch, que, ?_⟩
    unfold brk
    rw [if_pos rfl]
    show f_X4_breaks_2 (k2 + 1) (-1) _ = _
    rw [f_X4_breaks_2, if_pos rfl]
  · exact absurd q3 (hno p q1)
