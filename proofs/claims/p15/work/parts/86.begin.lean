/-! ===== acts begin ===== -/
theorem mClr_r {a k : Nat} {M : MS} (h : k ≠ 23 ∧ k ≠ 25 ∧ k ≠ 26 ∧ k ≠ 28 ∧ k ≠ 15 ∧ k ≠ 14 ∧ k ≠ 16) : (mClr a M).2.1 k = M.2.1 k := by
  obtain ⟨h1, h2, h3, h4, h5, h6, h7⟩ := h
  simp only [mClr, mClr4, mR_get]
  rw [if_neg h7, if_neg h6, if_neg h5, if_neg h4, if_neg h3, if_neg h2, if_neg h1]
theorem mClr_0 {a : Nat} {M : MS} : (mClr a M).2.1 28 a = 0 ∧ (mClr a M).2.1 15 a = 0 ∧ (mClr a M).2.1 14 a = 0 := ⟨pk_us, pk_us, pk_us⟩
theorem mClr_23 {a c : Nat} {M : MS} (hc : c < 24) : (mClr a M).2.1 23 (24 * a + c) = 0 := by
  have e : (mClr a M).2.1 23 = rwm (M.2.1 23) (24 * a) 24 (fun _ => 0) := rfl
  rw [e]; simp only [rwm]; rw [if_pos (show 24 * a ≤ 24 * a + c ∧ 24 * a + c < 24 * a + 24 by omega)]
theorem mClr_25 {a c : Nat} {M : MS} (hc : c < 8) : (mClr a M).2.1 25 (8 * a + c) = 0 := by
  have e : (mClr a M).2.1 25 = rwm (M.2.1 25) (8 * a) 8 (fun _ => 0) := rfl
  rw [e]; simp only [rwm]; rw [if_pos (show 8 * a ≤ 8 * a + c ∧ 8 * a + c < 8 * a + 8 by omega)]
theorem mClr_26 {a c : Nat} {M : MS} (hc : c < 8) : (mClr a M).2.1 26 (8 * a + c) = 0 := by
  have e : (mClr a M).2.1 26 = rwm (M.2.1 26) (8 * a) 8 (fun _ => 0) := rfl
  rw [e]; simp only [rwm]; rw [if_pos (show 8 * a ≤ 8 * a + c ∧ 8 * a + c < 8 * a + 8 by omega)]
theorem cntK_up {M M' : MS} {a k : Nat} (h0 : M.2.1 11 a = 0) (h1 : M'.2.1 11 a = 1) (ho : ∀ x, x ≠ a → M'.2.1 11 x = M.2.1 11 x) (h9 : M'.2.1 9 = M.2.1 9) (n : Nat) : cntK M' k n = cntK M k n + if a < n ∧ M.2.1 9 a = nI k then 1 else 0 := by
  induction n with
  | zero => rfl
  | succ n ih =>
    simp only [cntK]
    rw [ih, h9]
    by_cases e : a = n
    · subst e
      rw [h0, h1, if_neg (fun q => by have := q.1; omega), if_neg (fun q : (0 : Int32) = 1 ∧ _ => absurd q.1 (by decide))]
      by_cases z : M.2.1 9 a = nI k
      · rw [if_pos ⟨rfl, z⟩, if_pos ⟨by omega, z⟩]
      · rw [if_neg (fun q => z q.2), if_neg (fun q => z q.2)]
    · rw [ho n (fun q => e q.symm)]
      by_cases z : a < n ∧ M.2.1 9 a = nI k
      · rw [if_pos z, if_pos (show a < n + 1 ∧ M.2.1 9 a = nI k from ⟨by omega, z.2⟩)]; omega
      · rw [if_neg z, if_neg (show ¬ (a < n + 1 ∧ M.2.1 9 a = nI k) from fun q => z ⟨by omega, q.2⟩)]; omega
theorem cntS_up {M M' : MS} {a : Nat} (h0 : M.2.1 11 a = 0) (h1 : M'.2.1 11 a = 1) (ho : ∀ x, x ≠ a → M'.2.1 11 x = M.2.1 11 x) (n : Nat) : cntS M' 1 n = cntS M 1 n + if a < n then 1 else 0 := by
  induction n with
  | zero => rfl
  | succ n ih =>
    simp only [cntS]
    rw [ih]
    by_cases e : a = n
    · subst e
      rw [h0, h1, if_neg (by omega), if_neg (show ¬ (0 : Int32) = 1 by decide), if_pos rfl, if_pos (by omega)]
    · rw [ho n (fun q => e q.symm)]
      by_cases z : a < n
      · rw [if_pos z, if_pos (show a < n + 1 by omega)]; omega
      · rw [if_neg z, if_neg (show ¬ a < n + 1 by omega)]; omega
/-- the reference: how many of its class are begun, and then -/
def bdec (K8 : Int32 → Int32 → MS → Option (Int32 × MS)) (v1 v2 v3 v4 : Int32) (M : MS) : Option (Int32 × MS) := (if 0 ≤ v3.toInt ∧ v3.toInt < 80 then (if 0 ≤ ((M.2.1 9) v3.toNatClampNeg).toInt ∧ ((M.2.1 9) v3.toNatClampNeg).toInt < 4 then (if ((M.2.1 4) ((M.2.1 9) v3.toNatClampNeg).toNatClampNeg) ≤ v4 then f_X4_begins_202 K8 v1 v2 M else (if 0 ≤ ((M.2.1 8) v3.toNatClampNeg).toInt ∧ ((M.2.1 8) v3.toNatClampNeg).toInt < 8 then (if ((M.2.1 5) ((M.2.1 8) v3.toNatClampNeg).toNatClampNeg) = 0 then f_X4_begins_202 K8 v1 v2 M else (k_bind (f_X4_clears v3 M) fun _ M10 => (k_let (mA M10 11 v3.toNatClampNeg (1 : Int32)) fun M11 => (k_let (mA M11 20 v3.toNatClampNeg (M11.1 0)) fun M12 => (if 0 ≤ ((M12.2.1 8) v3.toNatClampNeg).toInt ∧ ((M12.2.1 8) v3.toNatClampNeg).toInt < 8 then (k_let (mA M12 12 v3.toNatClampNeg ((M12.2.1 5) ((M12.2.1 8) v3.toNatClampNeg).toNatClampNeg)) fun M14 => f_X4_begins_153 K8 200 v1 v2 v3 (0 : Int32) M14) else none))))) else none)) else none) else none)
theorem cntK_le_n (M : MS) (k n : Nat) : cntK M k n ≤ n := by
  induction n with
  | zero => exact Nat.le_refl _
  | succ n ih => simp only [cntK]; split <;> omega
theorem m_cnt26 {M : MS} {n a kd : Nat} (K8 : Int32 → Int32 → MS → Option (Int32 × MS)) (v1 v2 : Int32) (hn80 : n ≤ 80) (hn : M.1 7 = nI n) (ha : a < 80) (h9 : M.2.1 9 a = nI kd) (k o : Nat) (hk : n < k + o) (ho : o ≤ n) : f_X4_begins_26 K8 k v1 v2 (nI a) (nI (cntK M kd o)) (nI o) M = bdec K8 v1 v2 (nI a) (nI (cntK M kd n)) M := by
  induction k generalizing o with
  | zero => omega
  | succ k ih =>
    rw [f_X4_begins_26, hn]
    by_cases h0 : n ≤ o
    · rw [if_pos (np_ h0 (by omega) (by omega))]
      have : o = n := by omega
      subst this; rfl
    · rw [if_neg (nn h0 (by omega) (by omega)), if_pos (ck o 80 (by omega)), nc o (by omega)]
      have nx := ih (o + 1) (by omega) (by omega)
      simp only [cntK] at nx
      by_cases hs : M.2.1 11 o = 1
      · rw [if_pos hs, if_pos (ck a 80 (by omega)), nc a (by omega), h9]
        by_cases hz : M.2.1 9 o = nI kd
        · rw [if_pos ⟨hs, hz⟩] at nx
          rw [if_pos hz, f_X4_begins_69, n1, nI_add, nI_add]; exact nx
        · rw [if_neg (fun q => hz q.2)] at nx
          rw [if_neg hz, f_X4_begins_68, f_X4_begins_69, Int32.add_zero, n1, nI_add]; exact nx
      · rw [if_neg (fun q => hs q.1)] at nx
        rw [if_neg hs, f_X4_begins_68, f_X4_begins_69, Int32.add_zero, n1, nI_add]; exact nx
theorem m_153 {a p : Nat} (K8 : Int32 → Int32 → MS → Option (Int32 × MS)) (v1 v2 : Int32) (ha : a < 80) (hp : p < 8) (g : Nat → Int32) (k j : Nat) (M : MS) (hk : 12 < k + j) (hj : j ≤ 12) (h8 : M.2.1 8 a = nI p) (hg : ∀ i, j ≤ i → i < 12 → g (12 * a + i) = M.2.1 6 (12 * p + i)) : f_X4_begins_153 K8 k v1 v2 (nI a) (nI j) M = (k_bind (f_X4_logs (0 : Int32) (nI a) ((-1) : Int32) (mR M 13 (rwm (M.2.1 13) (12 * a + j) (12 - j) g))) fun _ M16 => f_X4_begins_202 K8 v1 v2 M16) := by
  induction k generalizing j M with
  | zero => omega
  | succ k ih =>
    rw [f_X4_begins_153]
    by_cases h0 : 12 ≤ j
    · rw [if_pos (show 12 ≤ nI j from np_ (a := 12) h0 (by omega) (by omega)), show 12 - j = 0 by omega, rwm_0, mR_id]
    · rw [if_neg (show ¬ 12 ≤ nI j from nn (a := 12) h0 (by omega) (by omega)), if_pos (ck a 80 (by omega)), nc a (by omega), h8, ix12, ix12, if_pos (ck (12 * p + j) 96 (by omega)), if_pos (ck (12 * a + j) 960 (by omega)), nc (12 * p + j) (by omega), nc (12 * a + j) (by omega), k_ls, n1, nI_add, ih (j + 1) _ (by omega) (by omega) (by rw [mA_ne (by omega)]; exact h8) (fun i h1 h2 => by rw [mA_ne (by omega)]; exact hg i (by omega) h2), mA_R]
      obtain ⟨d, hd⟩ : ∃ d, 12 - j = d + 1 := ⟨11 - j, by omega⟩
      rw [hd, show 12 - (j + 1) = d by omega, show (mR M 13 (upd (M.2.1 13) (12 * a + j) (M.2.1 6 (12 * p + j)))).2.1 13 = upd (M.2.1 13) (12 * a + j) (M.2.1 6 (12 * p + j)) from rfl, ← Nat.add_assoc, rwm_s (hg j (Nat.le_refl _) (by omega)).symm, mR_R]
      rfl
theorem CA_9 {a : Nat} {C C' : CS} {f : Nat → Int32} (h : CA a C C') : CA a (cAF C 9 f) (cAF C' 9 f) :=
  ⟨⟨h.1.1, by show va_up C'.2.1 9 f = va_up C.2.1 9 f; rw [h.1.2.1], h.1.2.2.1, h.1.2.2.2.1, h.1.2.2.2.2⟩, h.2⟩
/-- an act that waits begins -/
theorem begin_same {C : CS} {M : MS} {n t u d e kp fa a p kd l : Nat} (K8 : Int32 → Int32 → MS → Option (Int32 × MS)) (v1 v2 : Int32) (h : ∀ i, RI C M n t u d e kp fa i) (ha : a < n) (hs : M.2.1 11 a = 0) (h8 : M.2.1 8 a = nI p) (hp : p < 8) (h9 : M.2.1 9 a = nI kd) (hkd : kd < 4) (h5 : M.2.1 5 p = nI l) (hl : l ≤ 12) (hl0 : 0 < l) (hlim : cntK M kd n < 9) (h9c : C.2.1 9 kd = nI (cntK M kd n)) (hb : e < 512000) : ∃ C10 C13 M', f_X0_begin a (nI l) (nI t) C = some (0, C10) ∧ gP C10 a 1 = nI kd ∧ C10.1 15 = nI t ∧ C10.2.1 = C.2.1 ∧ f_X1_write 0 (nI a) (-1) (nI t) (cAF C10 9 (upd (C.2.1 9) kd (nI (cntK M kd n + 1)))) = some (nI e, C13) ∧ (k_bind (f_X4_clears (nI a) M) fun _ M10 => (k_let (mA M10 11 a (1 : Int32)) fun M11 => (k_let (mA M11 20 a (M11.1 0)) fun M12 => (k_let (mA M12 12 a (nI l)) fun M14 => f_X4_begins_153 K8 200 v1 v2 (nI a) (0 : Int32) M14)))) = f_X4_begins_202 K8 v1 v2 M' ∧ (∀ i, RI C13 M' n t u d (e + 1) kp fa i) ∧ C13.2.1 6 = C.2.1 6 ∧ C13.2.1 9 = upd (C.2.1 9) kd (nI (cntK M kd n + 1)) ∧ MX a M M' ∧ M'.2.1 11 a = 1 := by
  obtain ⟨b1, b2, b3, b4⟩ : M.1 7 = nI n ∧ C.1 12 = nI n ∧ gN C = n ∧ n ≤ 80 := h 0
  obtain ⟨t1, t2, t3⟩ : M.1 0 = nI t ∧ C.1 15 = nI t ∧ t ≤ 5000 := h 1
  obtain ⟨z1, z2, z3, z4, z5, z6⟩ : M.1 31 = nI e ∧ C.1 21 = nI e ∧ 4 * e ≤ M.2.2 ∧ lnOK M.2.2 ∧ e ≤ gE C ∧ isE (gE C) := h 3
  have a80 : a < 80 := by omega
  have hA := h 12 a ha
  have v0 : M.2.1 21 a = 0 := by
    rcases hA 10 with q | ⟨-, q, -⟩
    · exact q
    · rw [hs] at q; exact absurd q (by decide)
  have d17 : M.2.1 17 a = -1 := by
    rcases hA 12 with q | q | q
    · rw [hs] at q; exact absurd q (by decide)
    · rw [hs] at q; exact absurd q (by decide)
    · exact q
  obtain ⟨y1, y2, y3⟩ := hA 8 hs
  generalize hC2 : cQF C a 4 (va_cpy (C.2.1 0) (gQ C a 4) (12 * p) 0 l) = C2
  generalize hC10 : cP (cP (cP (cP (cP C2 a 10 (nI l)) a 12 1) a 13 0) a 14 0) a 16 (nI t) = C10
  have bgn : f_X0_begin a (nI l) (nI t) C = some (0, C10) := by
    unfold f_X0_begin
    have e12 : gP C a 0 * 12 = nI (12 * p) := by
      rw [(hA 0).1, h8, Int32.mul_comm, n12, pk_mul]
    have tl : (nI l).toInt = l := nI_toInt (by omega)
    have tp : (nI (12 * p)).toInt = ((12 * p : Nat) : Int) := nI_toInt (by omega)
    rw [e12, tl, tp, if_pos (by rw [show ((0 : Int32)).toInt = 0 from by decide]; omega), nc (12 * p) (by omega), nc l (by omega), show ((0 : Int32)).toNatClampNeg = 0 from rfl, k_ls, hC2, k_ls, k_ls, k_ls, k_ls, k_ls, hC10]
  have caC0 : CA a C C10 := by
    rw [← hC10, ← hC2]; exact CA_tr CA_Q (CA_tr CA_P (CA_tr CA_P (CA_tr CA_P (CA_tr CA_P CA_P))))
  generalize hnw : upd (C.2.1 9) kd (nI (cntK M kd n + 1)) = nw
  have caC := CA_9 (f := nw) caC0
  have hR0 : ∀ i, RI (cAF C 9 nw) M n t u d e kp fa i := RI_fr (C := C) (M := M) (fun _ _ _ => rfl) rfl rfl rfl rfl rfl rfl (fun k _ h2 => by rw [cA_21, if_neg h2]) (fun _ _ => rfl) h
  obtain ⟨C13, w1, w2⟩ := c_write (C := cAF C10 9 nw) (e := e) (k := 0) (a := nI a) (c := -1) (t := nI t) (by rw [caC.1.1]; exact z2) (by rw [caC.1.2.2.2.1]; exact z5) (by rw [caC.1.2.2.2.1]; exact z6) (by omega)
  generalize hM14 : mA (mA (mA (mClr a M) 11 a 1) 20 a (nI t)) 12 a (nI l) = M14
  have r14 : ∀ k, k ≠ 23 ∧ k ≠ 25 ∧ k ≠ 26 ∧ k ≠ 28 ∧ k ≠ 15 ∧ k ≠ 14 ∧ k ≠ 16 → k ≠ 11 → k ≠ 20 → k ≠ 12 → M14.2.1 k = M.2.1 k := fun k h1 h2 h3 h4 => by rw [← hM14, mA_ne h4, mA_ne h3, mA_ne h2, mClr_r h1]
  have caM0 : MA a M M14 := by rw [← hM14]; exact MA_tr (MA_tr (MA_tr (MA_clr a M) (MA_a (by omega))) (MA_a (by omega))) (MA_a (by omega))
  have h153 := m_153 (a := a) (p := p) K8 v1 v2 a80 hp (fun i => M.2.1 6 (12 * p + (i - 12 * a))) 200 0 M14 (by omega) (by omega) (by rw [r14 8 (by omega) (by omega) (by omega) (by omega)]; exact h8) (fun i _ hi => by
    show M.2.1 6 (12 * p + (12 * a + i - 12 * a)) = _
    rw [Nat.add_sub_cancel_left, r14 6 (by omega) (by omega) (by omega) (by omega)])
  rw [Nat.add_zero, Nat.sub_zero] at h153
  generalize hM15 : mR M14 13 (rwm (M14.2.1 13) (12 * a) 12 (fun i => M.2.1 6 (12 * p + (i - 12 * a)))) = M15 at h153
  have caM : MA a M M15 := by
    rw [← hM15]
    exact MA_tr caM0 (MA_R (fun i hi => rwm_no (k := 13) (a := a) (fun i h1 h2 => Or.inl ⟨Or.inl rfl, h1, h2⟩) i hi))
  have r15 : ∀ k, k ≠ 13 → M15.2.1 k = M14.2.1 k := fun k hk => by rw [← hM15, mR_get, if_neg hk]
  have s15 : ∀ j, j < 12 → M15.2.1 13 (12 * a + j) = M.2.1 6 (12 * p + j) := fun j hj => by
    rw [← hM15, mR_get, if_pos rfl]
    simp only [rwm]; rw [if_pos (show 12 * a ≤ 12 * a + j ∧ 12 * a + j < 12 * a + 12 by omega), Nat.add_sub_cancel_left]
  obtain ⟨M', v1', v2'⟩ := m_logs2 (M := M15) (e := e) (x := 0) (y := nI a) (z := -1) (by rw [caM.1]; exact z1) (by rw [caM.2.1]; exact z3) (by rw [caM.2.1]; exact z4) hb
  have cal : CAL a (cAF C 9 nw) C13 e (enc (nI 0) (nI a) (-1) (nI t)) := CAL_of caC w2 (CA_rf a C13)
  have mal : MAL a M M' e (nI 0) (nI a) (-1) := MAL_of caM v2' (MA_rf a M')
  have mx := MX_L mal
  have mo : ∀ j, j ≠ 33 → M'.2.1 j = M15.2.1 j := v2'.2.1
  have m11 : M'.2.1 11 a = 1 := by rw [mo 11 (by omega), r15 11 (by omega), ← hM14, mA_ne (by omega), mA_ne (by omega)]; exact pk_us
  have m20 : M'.2.1 20 a = nI t := by rw [mo 20 (by omega), r15 20 (by omega), ← hM14, mA_ne (by omega)]; exact pk_us
  have m12 : M'.2.1 12 a = nI l := by rw [mo 12 (by omega), r15 12 (by omega), ← hM14]; exact pk_us
  have mc : ∀ j, j ≠ 33 → j ≠ 13 → j ≠ 12 → j ≠ 20 → j ≠ 11 → M'.2.1 j = (mClr a M).2.1 j := fun j h1 h2 h3 h4 h5 => by
    rw [mo j h1, r15 j h2, ← hM14, mA_ne h3, mA_ne h4, mA_ne h5]
  have gP13 : gP C13 = gP C10 := by rw [w2.2.2.2.2.2.2.1]; rfl
  have gQ13 : gQ C13 = gQ C10 := by rw [w2.2.2.2.2.2.2.2.1]; rfl
  have gq : ∀ j, j ≠ 10 → j ≠ 12 → j ≠ 13 → j ≠ 14 → j ≠ 16 → gP C13 a j = gP C a j := fun j h1 h2 h3 h4 h5 => by
    rw [gP13, ← hC10, cP_Pa, if_neg h5, cP_Pa, if_neg h4, cP_Pa, if_neg h3, cP_Pa, if_neg h2, cP_Pa, if_neg h1, ← hC2]; rfl
  have g10 : gP C13 a 10 = nI l := by rw [gP13, ← hC10, cP_Pa, if_neg (by omega), cP_Pa, if_neg (by omega), cP_Pa, if_neg (by omega), cP_Pa, if_neg (by omega), cP_Pa, if_pos rfl]
  have g12 : gP C13 a 12 = 1 := by rw [gP13, ← hC10, cP_Pa, if_neg (by omega), cP_Pa, if_neg (by omega), cP_Pa, if_neg (by omega), cP_Pa, if_pos rfl]
  have g13 : gP C13 a 13 = 0 := by rw [gP13, ← hC10, cP_Pa, if_neg (by omega), cP_Pa, if_neg (by omega), cP_Pa, if_pos rfl]
  have g14 : gP C13 a 14 = 0 := by rw [gP13, ← hC10, cP_Pa, if_neg (by omega), cP_Pa, if_pos rfl]
  have g16 : gP C13 a 16 = nI t := by rw [gP13, ← hC10, cP_Pa, if_pos rfl]
  have q4 : gQ C13 a 4 = va_cpy (C.2.1 0) (gQ C a 4) (12 * p) 0 l := by rw [gQ13, ← hC10]; show gQ C2 a 4 = _; rw [← hC2, cQ_Q, if_pos ⟨rfl, rfl⟩]
  have qo : ∀ j, j ≠ 4 → gQ C13 a j = gQ C a j := fun j hj => by rw [gQ13, ← hC10]; show gQ C2 a j = _; rw [← hC2, cQ_Q, if_neg (by omega)]
  have r : ∀ k, (k ≤ 10 ∨ k = 19 ∨ k = 21) → M'.2.1 k a = M.2.1 k a := fun k hk => mx k a (by omega) (noAt (by omega))
  have so : ∀ x, x ≠ a → M'.2.1 11 x = M.2.1 11 x := fun x hx => mx 11 x (by omega) (noAt1 hx (by omega))
  have e9 : M'.2.1 9 = M.2.1 9 := by funext i; exact mx 9 i (by omega) (noAt (by omega))
  have bg : BEG C13 M' a := by
    refine BEG_of (l := l) (s := 0) (q := 0) hl hl0 (Nat.le_refl _) ?_ g14 ⟨m12, g10, ?_, ?_, ?_, ?_, fun j hj => ?_, fun j hj => by omega, fun c hc => ?_, fun c hc => ?_⟩
    · rw [mc 14 (by omega) (by omega) (by omega) (by omega) (by omega)]; exact mClr_0.2.2
    · rw [mc 28 (by omega) (by omega) (by omega) (by omega) (by omega)]; exact mClr_0.1
    · rw [gq 11 (by omega) (by omega) (by omega) (by omega) (by omega)]; exact y3
    · rw [g13, mc 15 (by omega) (by omega) (by omega) (by omega) (by omega)]; exact mClr_0.2.1.symm
    · rw [mc 15 (by omega) (by omega) (by omega) (by omega) (by omega), mClr_0.2.1]; decide
    · obtain ⟨x1, x2⟩ := h 7 (12 * p + j) (by omega)
      rw [q4, mo 13 (by omega), s15 j (by omega), pk_cpy_in (f := C.2.1 0) (g := gQ C a 4) (sp := 12 * p) (dp := 0) (n := l) (j := j) (by omega) (by omega), Nat.sub_zero]
      exact ⟨x1, x2⟩
    · rw [qo 5 (by omega), mc 23 (by omega) (by omega) (by omega) (by omega) (by omega), mClr_23 hc]
      exact ⟨y1 c hc, ⟨0, by omega, rfl⟩, fun q => absurd q (by decide)⟩
    · rw [qo 7 (by omega), qo 8 (by omega), mc 25 (by omega) (by omega) (by omega) (by omega) (by omega), mc 26 (by omega) (by omega) (by omega) (by omega) (by omega), mClr_25 hc, mClr_26 hc]
      exact y2 c hc
  have h24 : ∀ k, k < 4 → cntK M' k n ≤ 9 := fun k hk => by
    rw [cntK_up hs m11 so e9 n]
    have hk9 : cntK M k n ≤ 9 := h 24 k hk
    by_cases z : a < n ∧ M.2.1 9 a = nI k
    · have := (nIeq (a := kd) (b := k) (by omega) (by omega)).mp (h9.symm.trans z.2)
      subst this; rw [if_pos z]; omega
    · rw [if_neg z]; exact hk9
  have rin : RIn a C13 M' n t u d (e + 1) kp fa := RIn_lg (k := 0) (RIn_of hR0) ha cal mal (by omega) (by omega) (Or.inl rfl) (Or.inl hs) (Or.inl ⟨by omega, Or.inr m11⟩) h24 hb
  have ra : ∀ i, RA C13 M' u a i := by
    intro i
    match i with
    | 0 => simp only [RA, gq 0 (by omega) (by omega) (by omega) (by omega) (by omega), r 8 (by omega)]; exact hA 0
    | 1 => simp only [RA, gq 1 (by omega) (by omega) (by omega) (by omega) (by omega), r 9 (by omega)]; exact hA 1
    | 2 => simp only [RA, gq 2 (by omega) (by omega) (by omega) (by omega) (by omega), r 10 (by omega)]; exact hA 2
    | 3 => simp only [RA, gq 3 (by omega) (by omega) (by omega) (by omega) (by omega), r 19 (by omega)]; exact hA 3
    | 4 => exact ⟨by rw [g12, m11], 1, by omega, m11⟩
    | 5 =>
      refine ⟨by rw [g16, m20], ?_, ?_⟩
      · rw [gq 17 (by omega) (by omega) (by omega) (by omega) (by omega), mc 17 (by omega) (by omega) (by omega) (by omega) (by omega), mClr_r (by omega)]; exact (hA 5).2.1
      · rw [gq 19 (by omega) (by omega) (by omega) (by omega) (by omega), mc 18 (by omega) (by omega) (by omega) (by omega) (by omega), mClr_r (by omega)]; exact (hA 5).2.2
    | 6 => exact fun _ => bg
    | 7 => intro q; rw [m11] at q; rcases q with q | q <;> exact absurd q (by decide)
    | 8 => intro q; rw [m11] at q; exact absurd q (by decide)
    | 9 => simp only [RA, gq 15 (by omega) (by omega) (by omega) (by omega) (by omega)]; exact hA 9
    | 10 => left; rw [r 21 (by omega)]; exact v0
    | 11 =>
      intro p hp hpe
      rw [r 19 (by omega)] at hpe
      rcases hA 11 p hp hpe with q | q
      · rw [v0] at q; exact absurd q (by decide)
      · have pa : p ≠ a := fun e => by subst e; rw [hs] at q; rcases q with q | q <;> exact absurd q (by decide)
        right; rw [so p pa]; exact q
    | 12 => right; right; rw [mc 17 (by omega) (by omega) (by omega) (by omega) (by omega), mClr_r (by omega)]; exact d17
    | k + 13 => trivial
  refine ⟨C10, C13, M', bgn, ?_, by rw [caC0.1.1]; exact t2, caC0.1.2.1, w1, ?_, RI_of rin ra, ?_, ?_, mx, m11⟩
  · rw [← gP13, gq 1 (by omega) (by omega) (by omega) (by omega) (by omega), (hA 1).1]; exact h9
  · rw [m_clears a80, k_bs, k_ls, k_ls, k_ls, show (mA (mClr a M) 11 a 1).1 0 = nI t from t1, hM14, show f_X4_begins_153 K8 200 v1 v2 (nI a) 0 M14 = _ from h153, v1', k_bs]
  · rw [w2.2.1 6 (by omega)]; show C10.2.1 6 = _; rw [caC0.1.2.1]
  · rw [w2.2.1 9 (by omega)]; rfl
