/-- a place as of a tick, by the first d of the row of done acts -/
def vF (M : MS) (p : Nat) (T : Int32) : Nat → Int32
  | 0 => 0
  | d + 1 => if M.2.1 17 (M.2.1 30 d).toNatClampNeg ≤ T then (if p < 24 then (if M.2.1 23 (24 * (M.2.1 30 d).toNatClampNeg + p) = 3 then M.2.1 24 (24 * (M.2.1 30 d).toNatClampNeg + p) else vF M p T d) else vF M p T d + M.2.1 25 (8 * (M.2.1 30 d).toNatClampNeg + (p - 24))) else vF M p T d
theorem m_value_30 {M : MS} {d p : Nat} {T : Int32} (hd : M.1 29 = nI d) (hd80 : d ≤ 80) (hp : p < 32) (hr : ∀ i, i < d → ∃ b, b < 80 ∧ M.2.1 30 i = nI b) (k i : Nat) (hk : d < k + i) (hi : i ≤ d) : f_X4_value_30 k (nI p) T (vF M p T i) (nI i) M = some (vF M p T d, M) := by
  induction k generalizing i with
  | zero => omega
  | succ k ih =>
    rw [f_X4_value_30, hd]
    by_cases h : d ≤ i
    · rw [if_pos (np_ h (by omega) (by omega)), show i = d by omega]
    · obtain ⟨b, hb, eb⟩ := hr i (by omega)
      have nx : ∀ v : Int32, v = vF M p T (i + 1) → f_X4_value_118 (fun v1 v2 v3 v4 M => f_X4_value_30 k v1 v2 v3 v4 M) (nI p) T v (nI i) M = some (vF M p T d, M) := by
        intro v hv
        rw [f_X4_value_118, n1, nI_add, hv]
        exact ih (i + 1) (by omega) (by omega)
      have es : vF M p T (i + 1) = if M.2.1 17 b ≤ T then (if p < 24 then (if M.2.1 23 (24 * b + p) = 3 then M.2.1 24 (24 * b + p) else vF M p T i) else vF M p T i + M.2.1 25 (8 * b + (p - 24))) else vF M p T i := by
        simp only [vF, eb, nc b (by omega : b < 2147483648)]
      rw [if_neg (nn h (by omega) (by omega)), if_pos (ck i 80 (by omega)), nc i (by omega), eb, if_pos (ck b 80 (by omega)), nc b (by omega)]
      by_cases h1 : M.2.1 17 b ≤ T
      · rw [if_pos h1]; rw [if_pos h1] at es
        by_cases h2 : p < 24
        · rw [if_pos (show nI p < 24 from (nIlt (a := p) (b := 24) (by omega) (by omega)).mpr h2), ix24, if_pos (ck (24 * b + p) 1920 (by omega)), nc (24 * b + p) (by omega)]
          rw [if_pos h2] at es
          by_cases h3 : M.2.1 23 (24 * b + p) = 3
          · rw [if_pos h3]; rw [if_pos h3] at es; exact nx _ es.symm
          · rw [if_neg h3]; rw [if_neg h3] at es; exact nx _ es.symm
        · rw [if_neg (show ¬ nI p < 24 from fun q => h2 ((nIlt (a := p) (b := 24) (by omega) (by omega)).mp q))]
          rw [if_neg h2] at es
          have e8 : (8 : Int32) * nI b + nI p - 24 = nI (8 * b + (p - 24)) := by
            rw [ix8, show (24 : Int32) = nI 24 from rfl, pk_sub (by omega)]; congr 1; omega
          rw [e8, if_pos (ck (8 * b + (p - 24)) 640 (by omega)), nc (8 * b + (p - 24)) (by omega)]
          exact nx _ es.symm
      · rw [if_neg h1]; rw [if_neg h1] at es; exact nx _ es.symm
theorem c_value_44 {C : CS} {M : MS} {n t u d e kp fa p : Nat} {T : Int32} (h : ∀ i, RI C M n t u d e kp fa i) (hp : p < 32) (k i : Nat) (hk : d < k + i) (hi : i ≤ d) : f_X3_value_44 k (nI p) T (vF M p T i) (nI i) C = some (vF M p T d, C) := by
  obtain ⟨a1, a2, a3⟩ : M.1 29 = nI d ∧ C.1 13 = nI d ∧ d ≤ n := h 2
  obtain ⟨b1, b2, b3, b4⟩ : M.1 7 = nI n ∧ C.1 12 = nI n ∧ gN C = n ∧ n ≤ 80 := h 0
  induction k generalizing i with
  | zero => omega
  | succ k ih =>
    rw [f_X3_value_44, a2]
    by_cases h0 : d ≤ i
    · rw [if_pos (np_ h0 (by omega) (by omega)), show i = d by omega]
    · obtain ⟨er, b, hb, eb, hs⟩ := h 14 i (by omega)
      have nx : ∀ v : Int32, v = vF M p T (i + 1) → f_X3_value_84 (fun v1 v2 v3 v4 C => f_X3_value_44 k v1 v2 v3 v4 C) (nI p) T v (nI i) C = some (vF M p T d, C) := by
        intro v hv
        rw [f_X3_value_84, n1, nI_add, hv]
        exact ih (i + 1) (by omega) (by omega)
      have es : vF M p T (i + 1) = if M.2.1 17 b ≤ T then (if p < 24 then (if M.2.1 23 (24 * b + p) = 3 then M.2.1 24 (24 * b + p) else vF M p T i) else vF M p T i + M.2.1 25 (8 * b + (p - 24))) else vF M p T i := by
        simp only [vF, eb, nc b (by omega : b < 2147483648)]
      obtain ⟨g1, g2, -⟩ := h 12 b hb 7 hs
      have e17 : gP C b 17 = M.2.1 17 b := (h 12 b hb 5).2.1
      rw [if_neg (nn h0 (by omega) (by omega)), if_pos (ck i 80 (by omega)), nc i (by omega), er, eb, nc b (by omega), if_pos ⟨ck b 80 (by omega), by omega⟩, e17]
      by_cases h1 : M.2.1 17 b ≤ T
      · rw [if_neg (fun q => by have a := k_lt q; have c := k_le h1; omega)]; rw [if_pos h1] at es
        unfold f_X0_valueAfter
        by_cases h2 : p < 24
        · rw [if_neg (show ¬ 24 ≤ nI p from fun q => by have := (nIle (a := 24) (b := p) (by omega) (by omega)).mp q; omega), if_pos (ck p 24 (by omega)), nc p (by omega)]
          rw [if_pos h2] at es
          by_cases h3 : M.2.1 23 (24 * b + p) = 3
          · rw [if_pos ((g1 p h2).1.mpr h3), k_bs, (g1 p h2).2 h3]; rw [if_pos h3] at es; exact nx _ es.symm
          · rw [if_neg (fun q => h3 ((g1 p h2).1.mp q)), k_bs]; rw [if_neg h3] at es; exact nx _ es.symm
        · rw [if_pos (show 24 ≤ nI p from (nIle (a := 24) (b := p) (by omega) (by omega)).mpr (by omega)), show nI p - 24 = nI (p - 24) from by rw [show (24 : Int32) = nI 24 from rfl, pk_sub (by omega)], if_pos (ck (p - 24) 8 (by omega)), nc (p - 24) (by omega), k_bs, g2 (p - 24) (by omega)]
          rw [if_neg h2] at es
          exact nx _ es.symm
      · rw [if_pos (Int32.lt_iff_toInt_lt.mpr (k_nle h1))]; rw [if_neg h1] at es; exact nx _ es.symm
theorem vF_now {C : CS} {M : MS} {n t d e kp fa p : Nat} (h : ∀ i, RI C M n t t d e kp fa i) (hp : p < 32) : vF M p (nI t) d = C.2.1 4 p := by
  obtain ⟨-, -, ht⟩ : M.1 0 = nI t ∧ C.1 15 = nI t ∧ t ≤ 5000 := h 1
  have le : ∀ i, i < d → M.2.1 17 (M.2.1 30 i).toNatClampNeg ≤ nI t := fun i hi => by
    obtain ⟨-, b, hb, eb, hs⟩ := h 14 i hi
    obtain ⟨-, -, -, b4⟩ : M.1 7 = nI n ∧ C.1 12 = nI n ∧ gN C = n ∧ n ≤ 80 := h 0
    obtain ⟨-, -, s, hs2, es⟩ := h 12 b hb 7 hs
    rw [eb, nc b (by omega), es]
    exact np_ (by omega) (by omega) (by omega)
  by_cases hp2 : p < 24
  · rw [(h 10 p hp2).1, (h 10 p hp2).2]
    have : ∀ m, m ≤ d → vF M p (nI t) m = vCell M p m := by
      intro m
      induction m with
      | zero => intro _; rfl
      | succ m ih => intro hm; simp only [vF, vCell, if_pos (le m (by omega)), if_pos hp2, ih (by omega)]
    exact this d (Nat.le_refl _)
  · obtain ⟨q, rfl⟩ : ∃ q, p = 24 + q := ⟨p - 24, by omega⟩
    rw [(h 11 q (by omega)).1, (h 11 q (by omega)).2]
    have : ∀ m, m ≤ d → vF M (24 + q) (nI t) m = vCnt M q m := by
      intro m
      induction m with
      | zero => intro _; rfl
      | succ m ih => intro hm; simp only [vF, vCnt, if_pos (le m (by omega)), if_neg hp2, ih (by omega), Nat.add_sub_cancel_left]
    exact this d (Nat.le_refl _)
theorem s_value (j : Nat) (C : CS) (M : MS) (x y : Int32) (hR : RLaw j C M) : ∃ (q1 : Int32) (C1 : CS) (q2 : Int32) (M1 : MS), f_X3_value x y C = some (q1, C1) ∧ f_X4_value x y M = some (q2, M1) ∧ RLaw (j + 1) C1 M1 ∧ q1 = q2 := by
  obtain ⟨n, t, d, e, kp, fa, h1, h⟩ := id hR
  obtain ⟨b1, b2, b3, b4⟩ : M.1 7 = nI n ∧ C.1 12 = nI n ∧ gN C = n ∧ n ≤ 80 := h 0
  obtain ⟨t1, t2, t3⟩ : M.1 0 = nI t ∧ C.1 15 = nI t ∧ t ≤ 5000 := h 1
  obtain ⟨a1, a2, a3⟩ : M.1 29 = nI d ∧ C.1 13 = nI d ∧ d ≤ n := h 2
  have no : ∃ (q1 : Int32) (C1 : CS) (q2 : Int32) (M1 : MS), some ((-2147483648 : Int32), C) = some (q1, C1) ∧ some ((-2147483648 : Int32), M) = some (q2, M1) ∧ RLaw (j + 1) C1 M1 ∧ q1 = q2 := ⟨_, C, _, M, rfl, rfl, RLaw_mono hR, rfl⟩
  unfold f_X3_value f_X4_value
  rw [show (31 : Int32) = nI 32 - 1 from by decide, show f_X3_isBelow x (32 : Int32) = f_X3_isBelow x (nI 32) from rfl, t1, t2]
  rcases rng x 32 (by omega) with ⟨p, hp, rfl, e1, e2⟩ | ⟨e1, e2⟩
  · rw [e1, e2, if_neg i10, if_neg i10]
    by_cases y0 : y < 0
    · rw [if_pos y0, show f_X4_in y 0 (nI t) = 0 from by unfold f_X4_in; rw [if_pos y0], if_pos rfl]; exact no
    · rw [if_neg y0]
      by_cases y1 : y ≤ nI t
      · rw [if_pos y1, show f_X4_in y 0 (nI t) = 1 from by unfold f_X4_in; rw [if_neg y0, if_neg (fun q => by have a := k_lt q; have b := k_le y1; omega)], if_neg i10]
        have em : f_X4_value_30 200 (nI p) y 0 0 M = some (vF M p y d, M) := m_value_30 a1 (by omega) hp (fun i hi => by obtain ⟨-, b, hb, eb, -⟩ := h 14 i hi; exact ⟨b, by omega, eb⟩) 200 0 (by omega) (by omega)
        rw [em]
        by_cases y2 : y = nI t
        · rw [if_pos y2, if_pos (ck p 32 (by omega)), nc p (by omega)]
          exact ⟨_, C, _, M, rfl, rfl, RLaw_mono hR, by rw [y2]; exact (vF_now h hp).symm⟩
        · rw [if_neg y2]
          have ec : f_X3_value_44 200 (nI p) y 0 0 C = some (vF M p y d, C) := c_value_44 h hp 200 0 (by omega) (by omega)
          rw [ec]
          exact ⟨_, C, _, M, rfl, rfl, RLaw_mono hR, rfl⟩
      · rw [if_neg y1, show f_X4_in y 0 (nI t) = 0 from by unfold f_X4_in; rw [if_neg y0, if_pos (Int32.lt_iff_toInt_lt.mpr (k_nle y1))], if_pos rfl]; exact no
  · rw [e1, e2, if_pos rfl, if_pos rfl]; exact no
