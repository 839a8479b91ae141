theorem op_nI {k : Nat} (hk : k < 2147483648) : nI k / 10000 = nI (k / 10000) := pk_div (a := k) (d := 10000) (by omega) (by omega) (by omega)
theorem cel_nI {k : Nat} (hk : k < 2147483648) : nI k / 100 - nI k / 100 / 100 * 100 = nI (k / 100 % 100) := by
  have e1 : nI k / 100 = nI (k / 100) := pk_div (a := k) (d := 100) (by omega) (by omega) (by omega)
  rw [e1]
  exact pk_rem (a := k / 100) (d := 100) (by omega) (by omega) (by omega)
abbrev sk (k : Nat) : Prop := k / 10000 ≤ 8 ∧ ((k / 10000 = 0 ∨ k / 10000 = 3 ∨ k / 10000 = 4) → k / 100 % 100 < 24) ∧ ((k / 10000 = 6 ∨ k / 10000 = 7) → k / 100 % 100 < 8)
theorem c_isStep {k : Nat} (hk : k < 2147483648) : (sk k ∧ f_X3_isStep (nI k) = 1) ∨ (¬ sk k ∧ f_X3_isStep (nI k) = 0) := by
  unfold f_X3_isStep f_X3_opOf f_X3_aOf sk
  rw [op_nI hk, cel_nI hk, if_neg (nI_pos (by omega))]
  have ho : (nI (k / 10000)).toInt = ((k / 10000 : Nat) : Int) := nI_toInt (by omega)
  rw [ho]
  have hc24 : (24 : Int32) ≤ nI (k / 100 % 100) ↔ 24 ≤ k / 100 % 100 := nIle (a := 24) (b := k / 100 % 100) (by omega) (by omega)
  have hc8 : (8 : Int32) ≤ nI (k / 100 % 100) ↔ 8 ≤ k / 100 % 100 := nIle (a := 8) (b := k / 100 % 100) (by omega) (by omega)
  have ho8 : nI (k / 10000) ≤ (8 : Int32) ↔ k / 10000 ≤ 8 := nIle (a := k / 10000) (b := 8) (by omega) (by omega)
  generalize k / 10000 = o at *
  generalize k / 100 % 100 = a at *
  by_cases h8 : o ≤ 8
  · rw [if_pos (ho8.mpr h8)]
    by_cases a24 : 24 ≤ a
    · rw [if_pos (hc24.mpr a24), if_pos (hc8.mpr (by omega))]
      have hh : o = 0 ∨ o = 1 ∨ o = 2 ∨ o = 3 ∨ o = 4 ∨ o = 5 ∨ o = 6 ∨ o = 7 ∨ o = 8 := by omega
      rcases hh with rfl | rfl | rfl | rfl | rfl | rfl | rfl | rfl | rfl <;> first | (right; exact ⟨by omega, rfl⟩) | (left; exact ⟨by omega, rfl⟩)
    · rw [if_neg (fun q => a24 (hc24.mp q))]
      by_cases a8 : 8 ≤ a
      · rw [if_pos (hc8.mpr a8)]
        have hh : o = 0 ∨ o = 1 ∨ o = 2 ∨ o = 3 ∨ o = 4 ∨ o = 5 ∨ o = 6 ∨ o = 7 ∨ o = 8 := by omega
        rcases hh with rfl | rfl | rfl | rfl | rfl | rfl | rfl | rfl | rfl <;> first | (right; exact ⟨by omega, rfl⟩) | (left; exact ⟨by omega, rfl⟩)
      · rw [if_neg (fun q => a8 (hc8.mp q))]
        have hh : o = 0 ∨ o = 1 ∨ o = 2 ∨ o = 3 ∨ o = 4 ∨ o = 5 ∨ o = 6 ∨ o = 7 ∨ o = 8 := by omega
        rcases hh with rfl | rfl | rfl | rfl | rfl | rfl | rfl | rfl | rfl <;> first | (right; exact ⟨by omega, rfl⟩) | (left; exact ⟨by omega, rfl⟩)
  · rw [if_neg (fun q => h8 (ho8.mp q))]
    right; exact ⟨by omega, rfl⟩
/-- the reference's own tests of a STEP -/
theorem m_stepT {M : MS} {x : Int32} {k : Nat} (hk : k < 2147483648) : (if nI k / 10000 ≤ 8 then (if (nI k / 10000) = 0 then f_X4_step_63 x (nI k) (nI k / 10000) ((nI k / 100) - (nI k / 100) / 100 * 100) M else (if (nI k / 10000) = 3 then f_X4_step_63 x (nI k) (nI k / 10000) ((nI k / 100) - (nI k / 100) / 100 * 100) M else (if (nI k / 10000) = 4 then f_X4_step_63 x (nI k) (nI k / 10000) ((nI k / 100) - (nI k / 100) / 100 * 100) M else f_X4_step_70 x (nI k) (nI k / 10000) ((nI k / 100) - (nI k / 100) / 100 * 100) M))) else some ((-1 : Int32), M)) = (if sk k then f_X4_step_98 x (nI k) M else some (-1, M)) := by
  rw [op_nI hk, cel_nI hk]
  unfold f_X4_step_63 f_X4_step_70 f_X4_step_83 sk
  have hc24 : (24 : Int32) ≤ nI (k / 100 % 100) ↔ 24 ≤ k / 100 % 100 := nIle (a := 24) (b := k / 100 % 100) (by omega) (by omega)
  have hc8 : (8 : Int32) ≤ nI (k / 100 % 100) ↔ 8 ≤ k / 100 % 100 := nIle (a := 8) (b := k / 100 % 100) (by omega) (by omega)
  have hc8' : nI (k / 100 % 100) < (8 : Int32) ↔ k / 100 % 100 < 8 := nIlt (a := k / 100 % 100) (b := 8) (by omega) (by omega)
  have ho8 : nI (k / 10000) ≤ (8 : Int32) ↔ k / 10000 ≤ 8 := nIle (a := k / 10000) (b := 8) (by omega) (by omega)
  have q0 : nI (k / 10000) = (0 : Int32) ↔ k / 10000 = 0 := nIeq (a := k / 10000) (b := 0) (by omega) (by omega)
  have q3 : nI (k / 10000) = (3 : Int32) ↔ k / 10000 = 3 := nIeq (a := k / 10000) (b := 3) (by omega) (by omega)
  have q4 : nI (k / 10000) = (4 : Int32) ↔ k / 10000 = 4 := nIeq (a := k / 10000) (b := 4) (by omega) (by omega)
  have q6 : nI (k / 10000) = (6 : Int32) ↔ k / 10000 = 6 := nIeq (a := k / 10000) (b := 6) (by omega) (by omega)
  have q7 : nI (k / 10000) = (7 : Int32) ↔ k / 10000 = 7 := nIeq (a := k / 10000) (b := 7) (by omega) (by omega)
  simp only [hc24, hc8, hc8', ho8, q0, q3, q4, q6, q7]
  generalize k / 10000 = o
  generalize k / 100 % 100 = a
  by_cases h8 : o ≤ 8
  · have hh : o = 0 ∨ o = 1 ∨ o = 2 ∨ o = 3 ∨ o = 4 ∨ o = 5 ∨ o = 6 ∨ o = 7 ∨ o = 8 := by omega
    by_cases a24 : 24 ≤ a
    · rcases hh with rfl | rfl | rfl | rfl | rfl | rfl | rfl | rfl | rfl <;> simp [a24, show ¬ a < 24 by omega, show ¬ a < 8 by omega, show 8 ≤ a by omega]
    · by_cases a8 : 8 ≤ a
      · rcases hh with rfl | rfl | rfl | rfl | rfl | rfl | rfl | rfl | rfl <;> simp [a8, a24, show a < 24 by omega, show ¬ a < 8 by omega]
      · rcases hh with rfl | rfl | rfl | rfl | rfl | rfl | rfl | rfl | rfl <;> simp [a8, a24, show a < 24 by omega, show a < 8 by omega]
  · rw [if_neg h8, if_neg (fun q => h8 q.1)]
theorem s_step (j : Nat) (C : CS) (M : MS) (x y : Int32) (hR : RLaw j C M) : ∃ (q1 : Int32) (C1 : CS) (q2 : Int32) (M1 : MS), f_X3_step x y C = some (q1, C1) ∧ f_X4_step x y M = some (q2, M1) ∧ RLaw (j + 1) C1 M1 ∧ q1 = q2 := by
  have no : ∃ (q1 : Int32) (C1 : CS) (q2 : Int32) (M1 : MS), some ((-1 : Int32), C) = some (q1, C1) ∧ some ((-1 : Int32), M) = some (q2, M1) ∧ RLaw (j + 1) C1 M1 ∧ q1 = q2 := ⟨_, C, _, M, rfl, rfl, RLaw_mono hR, rfl⟩
  unfold f_X3_step f_X4_step f_X4_isProgram
  rw [show (7 : Int32) = nI 8 - 1 from by decide, show f_X3_isBelow x (8 : Int32) = f_X3_isBelow x (nI 8) from rfl]
  rcases rng x 8 (by omega) with ⟨p, hp, rfl, e1, e2⟩ | ⟨e1, e2⟩
  · rw [e1, e2, if_neg i10, if_neg i10, if_pos (ck p 8 (by omega)), if_pos (ck p 8 (by omega)), nc p (by omega)]
    obtain ⟨n, t, d, e, kp, fa, h1, h⟩ := id hR
    obtain ⟨hl1, l, hl, hl2⟩ : C.2.1 1 p = M.2.1 5 p ∧ ∃ l, l ≤ 12 ∧ M.2.1 5 p = nI l := h 6 p hp
    rw [hl1, hl2]
    by_cases y0 : y < 0
    · have c0 : f_X3_isStep y = 0 := by unfold f_X3_isStep; rw [if_pos y0]
      rw [c0, if_pos rfl, if_pos y0]
      split <;> exact no
    · obtain ⟨k, hk, rfl⟩ := nI_of y0
      rw [if_neg y0, m_stepT (by omega)]
      rcases c_isStep (k := k) (by omega) with ⟨s1, s2⟩ | ⟨s1, s2⟩
      · rw [s2, if_neg i10, if_pos s1]
        by_cases l12 : l = 12
        · subst l12
          rw [if_neg (show ¬ nI 12 < 12 by decide), if_pos (show nI 12 = 12 from rfl)]; exact no
        · rw [if_pos (show nI l < 12 from (nIlt (a := l) (b := 12) (by omega) (by omega)).mpr (by omega)), if_neg (show ¬ nI l = 12 from fun q => l12 ((nIeq (a := l) (b := 12) (by omega) (by omega)).mp q))]
          have ix : nI p * 12 + nI l = nI (12 * p + l) := by rw [n12, pk_mul, nI_add, Nat.mul_comm]
          rw [ix, if_pos (ck (12 * p + l) 96 (by omega)), nc (12 * p + l) (by omega), k_ls, k_ls]
          unfold f_X4_step_98
          rw [if_pos (ck p 8 (by omega)), nc p (by omega), hl2, ix12, if_pos (ck (12 * p + l) 96 (by omega)), nc (12 * p + l) (by omega), k_ls, k_ls]
          have g5 : (mA M 6 (12 * p + l) (nI k)).2.1 5 p = nI l := hl2
          rw [g5, n1, nI_add]
          refine ⟨_, _, _, _, rfl, rfl, ?_, ?_⟩
          · refine ⟨n, t, d, e, kp, fa, by omega, RI_tr (C := C) (M := M) rfl rfl rfl rfl rfl rfl rfl (fun i hi => ?_) (fun i hi => ?_) h ?_ ?_ (h 8) (h 9)⟩
            · rw [cA_21, if_neg (by omega), cA_21, if_neg (by omega)]
            · rw [mA_R, mR_get, if_neg (by omega), mA_R, mR_get, if_neg (by omega)]
            · intro i hi
              show upd (C.2.1 1) p (nI (l + 1)) i = upd (M.2.1 5) p (nI (l + 1)) i ∧ ∃ l', l' ≤ 12 ∧ upd (M.2.1 5) p (nI (l + 1)) i = nI l'
              rw [upd_get, upd_get]
              split
              · exact ⟨rfl, l + 1, by omega, rfl⟩
              · exact h 6 i hi
            · intro i hi
              show upd (C.2.1 0) (12 * p + l) (nI k) i = upd (M.2.1 6) (12 * p + l) (nI k) i ∧ SOK (upd (M.2.1 6) (12 * p + l) (nI k) i)
              rw [upd_get, upd_get]
              split
              · exact ⟨rfl, k, by omega, rfl, s1.1, s1.2.1, s1.2.2⟩
              · exact h 7 i hi
          · show nI (l + 1) = upd (M.2.1 5) p (nI (l + 1)) p
            rw [pk_us]
      · rw [s2, if_pos rfl, if_neg s1]
        split <;> exact no
  · rw [e1, e2, if_pos rfl, if_pos rfl]; exact no
